section
-- ===== PART A: goes FIRST, ahead of the names: the tables' words, and 'selects' of the private methods out of them =====
/-- a private method of a class that the tables say can be made, by its rows of tables_1 -/
def lw_okq (q : MethodName × Nat) : Prop := (q.1.cls ≠ "java/lang/invoke/MethodHandle" ∧ q.1.cls ≠ "java/lang/invoke/VarHandle") ∧ Cond.instantiable q.1.cls q.2 ∈ tables_1 ∧ Cond.privateMethod q.1 ∈ tables_1 ∧ Cond.instanceMethod q.1 ∈ tables_1
theorem lw_p0 : lw_okq (⟨"WatershedMap$Land", "findNeighbours", "(II)V"⟩, 6) := ⟨⟨by decide +kernel, by decide +kernel⟩, List.mem_of_getElem? (i := 38) (by decide +kernel), List.mem_of_getElem? (i := 237) (by decide +kernel), List.mem_of_getElem? (i := 238) (by decide +kernel)⟩
theorem lw_p1 : lw_okq (⟨"WatershedMap$Hollows", "findLevels", "()V"⟩, 5) := ⟨⟨by decide +kernel, by decide +kernel⟩, List.mem_of_getElem? (i := 127) (by decide +kernel), List.mem_of_getElem? (i := 302) (by decide +kernel), List.mem_of_getElem? (i := 303) (by decide +kernel)⟩
theorem lw_p2 : lw_okq (⟨"WatershedMap$Hollows", "spread", "(I)V"⟩, 5) := ⟨⟨by decide +kernel, by decide +kernel⟩, List.mem_of_getElem? (i := 127) (by decide +kernel), List.mem_of_getElem? (i := 322) (by decide +kernel), List.mem_of_getElem? (i := 323) (by decide +kernel)⟩
theorem lw_p3 : lw_okq (⟨"WatershedMap$Hollows", "inLake", "(I)Z"⟩, 5) := ⟨⟨by decide +kernel, by decide +kernel⟩, List.mem_of_getElem? (i := 127) (by decide +kernel), List.mem_of_getElem? (i := 334) (by decide +kernel), List.mem_of_getElem? (i := 335) (by decide +kernel)⟩
theorem lw_p4 : lw_okq (⟨"WatershedMap$Hollows", "depth", "(I)I"⟩, 5) := ⟨⟨by decide +kernel, by decide +kernel⟩, List.mem_of_getElem? (i := 127) (by decide +kernel), List.mem_of_getElem? (i := 338) (by decide +kernel), List.mem_of_getElem? (i := 339) (by decide +kernel)⟩
theorem lw_p5 : lw_okq (⟨"WatershedMap$Hollows", "joinLakes", "(II)V"⟩, 5) := ⟨⟨by decide +kernel, by decide +kernel⟩, List.mem_of_getElem? (i := 127) (by decide +kernel), List.mem_of_getElem? (i := 342) (by decide +kernel), List.mem_of_getElem? (i := 343) (by decide +kernel)⟩
theorem lw_p6 : lw_okq (⟨"WatershedMap$Streams", "chooseDirection", "(I)V"⟩, 12) := ⟨⟨by decide +kernel, by decide +kernel⟩, List.mem_of_getElem? (i := 78) (by decide +kernel), List.mem_of_getElem? (i := 366) (by decide +kernel), List.mem_of_getElem? (i := 367) (by decide +kernel)⟩
theorem lw_p7 : lw_okq (⟨"WatershedMap$Streams", "putInOrder", "()V"⟩, 12) := ⟨⟨by decide +kernel, by decide +kernel⟩, List.mem_of_getElem? (i := 78) (by decide +kernel), List.mem_of_getElem? (i := 375) (by decide +kernel), List.mem_of_getElem? (i := 376) (by decide +kernel)⟩
theorem lw_p8 : lw_okq (⟨"WatershedMap$Streams", "putNext", "(I)V"⟩, 12) := ⟨⟨by decide +kernel, by decide +kernel⟩, List.mem_of_getElem? (i := 78) (by decide +kernel), List.mem_of_getElem? (i := 380) (by decide +kernel), List.mem_of_getElem? (i := 381) (by decide +kernel)⟩
theorem lw_p9 : lw_okq (⟨"WatershedMap$Streams", "passDown", "(II)V"⟩, 12) := ⟨⟨by decide +kernel, by decide +kernel⟩, List.mem_of_getElem? (i := 78) (by decide +kernel), List.mem_of_getElem? (i := 384) (by decide +kernel), List.mem_of_getElem? (i := 385) (by decide +kernel)⟩
theorem lw_p10 : lw_okq (⟨"WatershedMap$Streams", "findEnd", "(I)V"⟩, 12) := ⟨⟨by decide +kernel, by decide +kernel⟩, List.mem_of_getElem? (i := 78) (by decide +kernel), List.mem_of_getElem? (i := 389) (by decide +kernel), List.mem_of_getElem? (i := 390) (by decide +kernel)⟩
theorem lw_p11 : lw_okq (⟨"WatershedMap$Land", "steepnessOf", "(I)I"⟩, 6) := ⟨⟨by decide +kernel, by decide +kernel⟩, List.mem_of_getElem? (i := 38) (by decide +kernel), List.mem_of_getElem? (i := 433) (by decide +kernel), List.mem_of_getElem? (i := 434) (by decide +kernel)⟩
theorem lw_p12 : lw_okq (⟨"WatershedMap", "digestOfMap", "(J)J"⟩, 8) := ⟨⟨by decide +kernel, by decide +kernel⟩, List.mem_of_getElem? (i := 30) (by decide +kernel), List.mem_of_getElem? (i := 450) (by decide +kernel), List.mem_of_getElem? (i := 451) (by decide +kernel)⟩
theorem lw_p13 : lw_okq (⟨"WatershedMap$Land", "lowest", "()I"⟩, 6) := ⟨⟨by decide +kernel, by decide +kernel⟩, List.mem_of_getElem? (i := 38) (by decide +kernel), List.mem_of_getElem? (i := 459) (by decide +kernel), List.mem_of_getElem? (i := 460) (by decide +kernel)⟩
theorem lw_p14 : lw_okq (⟨"WatershedMap$Land", "sum", "()I"⟩, 6) := ⟨⟨by decide +kernel, by decide +kernel⟩, List.mem_of_getElem? (i := 38) (by decide +kernel), List.mem_of_getElem? (i := 470) (by decide +kernel), List.mem_of_getElem? (i := 471) (by decide +kernel)⟩
theorem lw_p15 : lw_okq (⟨"WatershedMap$Contours", "drawSquare", "(III)V"⟩, 6) := ⟨⟨by decide +kernel, by decide +kernel⟩, List.mem_of_getElem? (i := 174) (by decide +kernel), List.mem_of_getElem? (i := 483) (by decide +kernel), List.mem_of_getElem? (i := 484) (by decide +kernel)⟩
def lw_privs_1 : List (MethodName × Nat) := [(⟨"WatershedMap$Land", "findNeighbours", "(II)V"⟩, 6), (⟨"WatershedMap$Hollows", "findLevels", "()V"⟩, 5), (⟨"WatershedMap$Hollows", "spread", "(I)V"⟩, 5), (⟨"WatershedMap$Hollows", "inLake", "(I)Z"⟩, 5), (⟨"WatershedMap$Hollows", "depth", "(I)I"⟩, 5), (⟨"WatershedMap$Hollows", "joinLakes", "(II)V"⟩, 5), (⟨"WatershedMap$Streams", "chooseDirection", "(I)V"⟩, 12), (⟨"WatershedMap$Streams", "putInOrder", "()V"⟩, 12), (⟨"WatershedMap$Streams", "putNext", "(I)V"⟩, 12), (⟨"WatershedMap$Streams", "passDown", "(II)V"⟩, 12), (⟨"WatershedMap$Streams", "findEnd", "(I)V"⟩, 12), (⟨"WatershedMap$Land", "steepnessOf", "(I)I"⟩, 6), (⟨"WatershedMap", "digestOfMap", "(J)J"⟩, 8), (⟨"WatershedMap$Land", "lowest", "()I"⟩, 6), (⟨"WatershedMap$Land", "sum", "()I"⟩, 6), (⟨"WatershedMap$Contours", "drawSquare", "(III)V"⟩, 6)]
theorem lw_r1 : ∀ q ∈ lw_privs_1, lw_okq q := List.forall_mem_cons.mpr ⟨lw_p0, List.forall_mem_cons.mpr ⟨lw_p1, List.forall_mem_cons.mpr ⟨lw_p2, List.forall_mem_cons.mpr ⟨lw_p3, List.forall_mem_cons.mpr ⟨lw_p4, List.forall_mem_cons.mpr ⟨lw_p5, List.forall_mem_cons.mpr ⟨lw_p6, List.forall_mem_cons.mpr ⟨lw_p7, List.forall_mem_cons.mpr ⟨lw_p8, List.forall_mem_cons.mpr ⟨lw_p9, List.forall_mem_cons.mpr ⟨lw_p10, List.forall_mem_cons.mpr ⟨lw_p11, List.forall_mem_cons.mpr ⟨lw_p12, List.forall_mem_cons.mpr ⟨lw_p13, List.forall_mem_cons.mpr ⟨lw_p14, List.forall_mem_cons.mpr ⟨lw_p15, fun _ h => absurd h List.not_mem_nil⟩⟩⟩⟩⟩⟩⟩⟩⟩⟩⟩⟩⟩⟩⟩⟩
theorem lw_p16 : lw_okq (⟨"WatershedMap$Contours", "sumOfSquare", "(II)I"⟩, 6) := ⟨⟨by decide +kernel, by decide +kernel⟩, List.mem_of_getElem? (i := 174) (by decide +kernel), List.mem_of_getElem? (i := 493) (by decide +kernel), List.mem_of_getElem? (i := 494) (by decide +kernel)⟩
theorem lw_p17 : lw_okq (⟨"WatershedMap$Contours", "addPiece", "(II)V"⟩, 6) := ⟨⟨by decide +kernel, by decide +kernel⟩, List.mem_of_getElem? (i := 174) (by decide +kernel), List.mem_of_getElem? (i := 497) (by decide +kernel), List.mem_of_getElem? (i := 498) (by decide +kernel)⟩
theorem lw_p18 : lw_okq (⟨"WatershedMap$Contours", "tie", "(II)V"⟩, 6) := ⟨⟨by decide +kernel, by decide +kernel⟩, List.mem_of_getElem? (i := 174) (by decide +kernel), List.mem_of_getElem? (i := 501) (by decide +kernel), List.mem_of_getElem? (i := 502) (by decide +kernel)⟩
theorem lw_p19 : lw_okq (⟨"WatershedMap", "digestOfFields", "(J)J"⟩, 8) := ⟨⟨by decide +kernel, by decide +kernel⟩, List.mem_of_getElem? (i := 30) (by decide +kernel), List.mem_of_getElem? (i := 510) (by decide +kernel), List.mem_of_getElem? (i := 511) (by decide +kernel)⟩
theorem lw_p20 : lw_okq (⟨"java/lang/Throwable", "fillInStackTrace", "(I)Ljava/lang/Throwable;"⟩, 6) := ⟨⟨by decide +kernel, by decide +kernel⟩, List.mem_of_getElem? (i := 566) (by decide +kernel), List.mem_of_getElem? (i := 564) (by decide +kernel), List.mem_of_getElem? (i := 565) (by decide +kernel)⟩
theorem lw_p21 : lw_okq (⟨"WatershedMap", "checkField", "(II)V"⟩, 8) := ⟨⟨by decide +kernel, by decide +kernel⟩, List.mem_of_getElem? (i := 30) (by decide +kernel), List.mem_of_getElem? (i := 604) (by decide +kernel), List.mem_of_getElem? (i := 605) (by decide +kernel)⟩
theorem lw_p22 : lw_okq (⟨"WatershedMap$Hollows", "inOneLake", "(II)Z"⟩, 5) := ⟨⟨by decide +kernel, by decide +kernel⟩, List.mem_of_getElem? (i := 127) (by decide +kernel), List.mem_of_getElem? (i := 727) (by decide +kernel), List.mem_of_getElem? (i := 728) (by decide +kernel)⟩
theorem lw_p23 : lw_okq (⟨"WatershedMap$Ways", "spread", "(I)V"⟩, 3) := ⟨⟨by decide +kernel, by decide +kernel⟩, List.mem_of_getElem? (i := 211) (by decide +kernel), List.mem_of_getElem? (i := 785) (by decide +kernel), List.mem_of_getElem? (i := 786) (by decide +kernel)⟩
theorem lw_p24 : lw_okq (⟨"WatershedMap$Ways", "step", "(III)I"⟩, 3) := ⟨⟨by decide +kernel, by decide +kernel⟩, List.mem_of_getElem? (i := 211) (by decide +kernel), List.mem_of_getElem? (i := 790) (by decide +kernel), List.mem_of_getElem? (i := 791) (by decide +kernel)⟩
theorem lw_p25 : lw_okq (⟨"WatershedMap$Ways", "fieldAhead", "(I)I"⟩, 3) := ⟨⟨by decide +kernel, by decide +kernel⟩, List.mem_of_getElem? (i := 211) (by decide +kernel), List.mem_of_getElem? (i := 808) (by decide +kernel), List.mem_of_getElem? (i := 809) (by decide +kernel)⟩
theorem lw_p26 : lw_okq (⟨"WatershedMapModel", "start", "(ZI)Z"⟩, 3) := ⟨⟨by decide +kernel, by decide +kernel⟩, List.mem_of_getElem? (i := 836) (by decide +kernel), List.mem_of_getElem? (i := 882) (by decide +kernel), List.mem_of_getElem? (i := 883) (by decide +kernel)⟩
theorem lw_p27 : lw_okq (⟨"WatershedMapModel", "refuse", "(ZI)Z"⟩, 3) := ⟨⟨by decide +kernel, by decide +kernel⟩, List.mem_of_getElem? (i := 836) (by decide +kernel), List.mem_of_getElem? (i := 886) (by decide +kernel), List.mem_of_getElem? (i := 887) (by decide +kernel)⟩
theorem lw_p28 : lw_okq (⟨"WatershedMapModel", "isNoField", "(II)Z"⟩, 3) := ⟨⟨by decide +kernel, by decide +kernel⟩, List.mem_of_getElem? (i := 836) (by decide +kernel), List.mem_of_getElem? (i := 894) (by decide +kernel), List.mem_of_getElem? (i := 895) (by decide +kernel)⟩
theorem lw_p29 : lw_okq (⟨"WatershedMapModel", "isNo", "(II)Z"⟩, 3) := ⟨⟨by decide +kernel, by decide +kernel⟩, List.mem_of_getElem? (i := 836) (by decide +kernel), List.mem_of_getElem? (i := 898) (by decide +kernel), List.mem_of_getElem? (i := 899) (by decide +kernel)⟩
theorem lw_p30 : lw_okq (⟨"WatershedMapModel", "number", "(II)I"⟩, 3) := ⟨⟨by decide +kernel, by decide +kernel⟩, List.mem_of_getElem? (i := 836) (by decide +kernel), List.mem_of_getElem? (i := 902) (by decide +kernel), List.mem_of_getElem? (i := 903) (by decide +kernel)⟩
theorem lw_p31 : lw_okq (⟨"WatershedMapModel", "take", "([I)I"⟩, 3) := ⟨⟨by decide +kernel, by decide +kernel⟩, List.mem_of_getElem? (i := 836) (by decide +kernel), List.mem_of_getElem? (i := 930) (by decide +kernel), List.mem_of_getElem? (i := 931) (by decide +kernel)⟩
def lw_privs_2 : List (MethodName × Nat) := [(⟨"WatershedMap$Contours", "sumOfSquare", "(II)I"⟩, 6), (⟨"WatershedMap$Contours", "addPiece", "(II)V"⟩, 6), (⟨"WatershedMap$Contours", "tie", "(II)V"⟩, 6), (⟨"WatershedMap", "digestOfFields", "(J)J"⟩, 8), (⟨"java/lang/Throwable", "fillInStackTrace", "(I)Ljava/lang/Throwable;"⟩, 6), (⟨"WatershedMap", "checkField", "(II)V"⟩, 8), (⟨"WatershedMap$Hollows", "inOneLake", "(II)Z"⟩, 5), (⟨"WatershedMap$Ways", "spread", "(I)V"⟩, 3), (⟨"WatershedMap$Ways", "step", "(III)I"⟩, 3), (⟨"WatershedMap$Ways", "fieldAhead", "(I)I"⟩, 3), (⟨"WatershedMapModel", "start", "(ZI)Z"⟩, 3), (⟨"WatershedMapModel", "refuse", "(ZI)Z"⟩, 3), (⟨"WatershedMapModel", "isNoField", "(II)Z"⟩, 3), (⟨"WatershedMapModel", "isNo", "(II)Z"⟩, 3), (⟨"WatershedMapModel", "number", "(II)I"⟩, 3), (⟨"WatershedMapModel", "take", "([I)I"⟩, 3)]
theorem lw_r2 : ∀ q ∈ lw_privs_2, lw_okq q := List.forall_mem_cons.mpr ⟨lw_p16, List.forall_mem_cons.mpr ⟨lw_p17, List.forall_mem_cons.mpr ⟨lw_p18, List.forall_mem_cons.mpr ⟨lw_p19, List.forall_mem_cons.mpr ⟨lw_p20, List.forall_mem_cons.mpr ⟨lw_p21, List.forall_mem_cons.mpr ⟨lw_p22, List.forall_mem_cons.mpr ⟨lw_p23, List.forall_mem_cons.mpr ⟨lw_p24, List.forall_mem_cons.mpr ⟨lw_p25, List.forall_mem_cons.mpr ⟨lw_p26, List.forall_mem_cons.mpr ⟨lw_p27, List.forall_mem_cons.mpr ⟨lw_p28, List.forall_mem_cons.mpr ⟨lw_p29, List.forall_mem_cons.mpr ⟨lw_p30, List.forall_mem_cons.mpr ⟨lw_p31, fun _ h => absurd h List.not_mem_nil⟩⟩⟩⟩⟩⟩⟩⟩⟩⟩⟩⟩⟩⟩⟩⟩
theorem lw_p32 : lw_okq (⟨"WatershedMapModel", "of", "(I)I"⟩, 3) := ⟨⟨by decide +kernel, by decide +kernel⟩, List.mem_of_getElem? (i := 836) (by decide +kernel), List.mem_of_getElem? (i := 1021) (by decide +kernel), List.mem_of_getElem? (i := 1022) (by decide +kernel)⟩
theorem lw_p33 : lw_okq (⟨"WatershedMapModel", "water", "(II[I[I)I"⟩, 3) := ⟨⟨by decide +kernel, by decide +kernel⟩, List.mem_of_getElem? (i := 836) (by decide +kernel), List.mem_of_getElem? (i := 1041) (by decide +kernel), List.mem_of_getElem? (i := 1042) (by decide +kernel)⟩
theorem lw_p34 : lw_okq (⟨"WatershedMapModel", "many", "(I)I"⟩, 3) := ⟨⟨by decide +kernel, by decide +kernel⟩, List.mem_of_getElem? (i := 836) (by decide +kernel), List.mem_of_getElem? (i := 1061) (by decide +kernel), List.mem_of_getElem? (i := 1062) (by decide +kernel)⟩
theorem lw_p35 : lw_okq (⟨"WatershedMapModel", "plain", "(I)I"⟩, 3) := ⟨⟨by decide +kernel, by decide +kernel⟩, List.mem_of_getElem? (i := 836) (by decide +kernel), List.mem_of_getElem? (i := 1065) (by decide +kernel), List.mem_of_getElem? (i := 1066) (by decide +kernel)⟩
theorem lw_p36 : lw_okq (⟨"WatershedMapModel", "mostRankNow", "()I"⟩, 3) := ⟨⟨by decide +kernel, by decide +kernel⟩, List.mem_of_getElem? (i := 836) (by decide +kernel), List.mem_of_getElem? (i := 1077) (by decide +kernel), List.mem_of_getElem? (i := 1078) (by decide +kernel)⟩
theorem lw_p37 : lw_okq (⟨"WatershedMapModel", "longestNow", "()I"⟩, 3) := ⟨⟨by decide +kernel, by decide +kernel⟩, List.mem_of_getElem? (i := 836) (by decide +kernel), List.mem_of_getElem? (i := 1085) (by decide +kernel), List.mem_of_getElem? (i := 1086) (by decide +kernel)⟩
theorem lw_p38 : lw_okq (⟨"WatershedMapModel", "lakesNow", "()I"⟩, 3) := ⟨⟨by decide +kernel, by decide +kernel⟩, List.mem_of_getElem? (i := 836) (by decide +kernel), List.mem_of_getElem? (i := 1097) (by decide +kernel), List.mem_of_getElem? (i := 1098) (by decide +kernel)⟩
theorem lw_p39 : lw_okq (⟨"WatershedMapModel$Land", "isHigh", "(II)Z"⟩, 3) := ⟨⟨by decide +kernel, by decide +kernel⟩, List.mem_of_getElem? (i := 842) (by decide +kernel), List.mem_of_getElem? (i := 1151) (by decide +kernel), List.mem_of_getElem? (i := 1152) (by decide +kernel)⟩
theorem lw_p40 : lw_okq (⟨"java/util/ArrayList", "add", "(Ljava/lang/Object;[Ljava/lang/Object;I)V"⟩, 3) := ⟨⟨by decide +kernel, by decide +kernel⟩, List.mem_of_getElem? (i := 1125) (by decide +kernel), List.mem_of_getElem? (i := 1179) (by decide +kernel), List.mem_of_getElem? (i := 1180) (by decide +kernel)⟩
theorem lw_p41 : lw_okq (⟨"java/util/ArrayList", "grow", "()[Ljava/lang/Object;"⟩, 3) := ⟨⟨by decide +kernel, by decide +kernel⟩, List.mem_of_getElem? (i := 1125) (by decide +kernel), List.mem_of_getElem? (i := 1183) (by decide +kernel), List.mem_of_getElem? (i := 1184) (by decide +kernel)⟩
theorem lw_p42 : lw_okq (⟨"java/util/ArrayList", "grow", "(I)[Ljava/lang/Object;"⟩, 3) := ⟨⟨by decide +kernel, by decide +kernel⟩, List.mem_of_getElem? (i := 1125) (by decide +kernel), List.mem_of_getElem? (i := 1187) (by decide +kernel), List.mem_of_getElem? (i := 1188) (by decide +kernel)⟩
theorem lw_p43 : lw_okq (⟨"WatershedMapModel$Land", "step", "(III)I"⟩, 3) := ⟨⟨by decide +kernel, by decide +kernel⟩, List.mem_of_getElem? (i := 842) (by decide +kernel), List.mem_of_getElem? (i := 1288) (by decide +kernel), List.mem_of_getElem? (i := 1289) (by decide +kernel)⟩
def lw_privs_3 : List (MethodName × Nat) := [(⟨"WatershedMapModel", "of", "(I)I"⟩, 3), (⟨"WatershedMapModel", "water", "(II[I[I)I"⟩, 3), (⟨"WatershedMapModel", "many", "(I)I"⟩, 3), (⟨"WatershedMapModel", "plain", "(I)I"⟩, 3), (⟨"WatershedMapModel", "mostRankNow", "()I"⟩, 3), (⟨"WatershedMapModel", "longestNow", "()I"⟩, 3), (⟨"WatershedMapModel", "lakesNow", "()I"⟩, 3), (⟨"WatershedMapModel$Land", "isHigh", "(II)Z"⟩, 3), (⟨"java/util/ArrayList", "add", "(Ljava/lang/Object;[Ljava/lang/Object;I)V"⟩, 3), (⟨"java/util/ArrayList", "grow", "()[Ljava/lang/Object;"⟩, 3), (⟨"java/util/ArrayList", "grow", "(I)[Ljava/lang/Object;"⟩, 3), (⟨"WatershedMapModel$Land", "step", "(III)I"⟩, 3)]
theorem lw_r3 : ∀ q ∈ lw_privs_3, lw_okq q := List.forall_mem_cons.mpr ⟨lw_p32, List.forall_mem_cons.mpr ⟨lw_p33, List.forall_mem_cons.mpr ⟨lw_p34, List.forall_mem_cons.mpr ⟨lw_p35, List.forall_mem_cons.mpr ⟨lw_p36, List.forall_mem_cons.mpr ⟨lw_p37, List.forall_mem_cons.mpr ⟨lw_p38, List.forall_mem_cons.mpr ⟨lw_p39, List.forall_mem_cons.mpr ⟨lw_p40, List.forall_mem_cons.mpr ⟨lw_p41, List.forall_mem_cons.mpr ⟨lw_p42, List.forall_mem_cons.mpr ⟨lw_p43, fun _ h => absurd h List.not_mem_nil⟩⟩⟩⟩⟩⟩⟩⟩⟩⟩⟩⟩
def lw_privs : List (MethodName × Nat) := lw_privs_1 ++ (lw_privs_2 ++ (lw_privs_3))
def lw_tbl : List Cond := k2_sels lw_privs ++ tables_1
theorem lw_privs_ok : ∀ q ∈ lw_privs, lw_okq q := by
  show ∀ q ∈ lw_privs_1 ++ (lw_privs_2 ++ (lw_privs_3)), lw_okq q
  exact List.forall_mem_append.mpr ⟨lw_r1, List.forall_mem_append.mpr ⟨lw_r2, lw_r3⟩⟩
/-- the streams that the claim lets the run draw from -/
abbrev lw_cs : List Choice := [Jvm.Choice.named "NaN.bits"]
theorem lw_bits : nanBits ∈ lw_cs := by first | decide | exact List.mem_cons_self | simp [lw_cs, nanBits]

-- the pure machine: tables, by program (wip/p1/gen01.py)
def mj_u : Value := .retAddr 0
abbrev mj_I : Type := Instr × Nat × Nat × Nat × Nat × Value
def mj_T0 : u_T := fun k => match k with
  | 0 => ("WatershedMap$Contours", "land", "LWatershedMap$Land;", true)
  | 1 => ("WatershedMap$Contours", "pieceAt", "[I", true)
  | 2 => ("WatershedMap$Contours", "groups", "LWatershedMap$Groups;", true)
  | 3 => ("WatershedMap$Contours", "pieces", "I", false)
  | 4 => ("WatershedMap$Contours", "lines", "I", false)
  | _ => ("WatershedMap$Contours", "closed", "I", false)
def mj_T1 : u_T := fun k => match k with
  | 0 => ("WatershedMap$Frontier", "members", "[I", true)
  | _ => ("WatershedMap$Frontier", "size", "I", false)
def mj_T2 : u_T := fun k => match k with
  | _ => ("WatershedMap$Groups", "leaders", "[I", true)
def mj_T3 : u_T := fun k => match k with
  | 0 => ("WatershedMap$Hollows", "land", "LWatershedMap$Land;", true)
  | 1 => ("WatershedMap$Hollows", "levels", "[I", true)
  | 2 => ("WatershedMap$Hollows", "frontier", "LWatershedMap$Frontier;", true)
  | 3 => ("WatershedMap$Hollows", "groups", "LWatershedMap$Groups;", true)
  | _ => ("WatershedMap$Hollows", "lakeCount", "I", false)
def mj_T4 : u_T := fun k => match k with
  | 0 => ("WatershedMap$Land", "heights", "[I", true)
  | 1 => ("WatershedMap$Land", "after", "[I", true)
  | 2 => ("WatershedMap$Land", "neighbours", "[I", true)
  | 3 => ("WatershedMap$Land", "w", "I", false)
  | 4 => ("WatershedMap$Land", "h", "I", false)
  | _ => ("WatershedMap$Land", "fields", "I", false)
def mj_T5 : u_T := fun k => match k with
  | _ => ("WatershedMap$Sight", "land", "LWatershedMap$Land;", true)
def mj_T6 : u_T := fun k => match k with
  | 0 => ("WatershedMap$Streams", "land", "LWatershedMap$Land;", true)
  | 1 => ("WatershedMap$Streams", "directions", "[I", true)
  | 2 => ("WatershedMap$Streams", "next", "[I", true)
  | 3 => ("WatershedMap$Streams", "flows", "[I", true)
  | 4 => ("WatershedMap$Streams", "ends", "[I", true)
  | 5 => ("WatershedMap$Streams", "distances", "[I", true)
  | 6 => ("WatershedMap$Streams", "ranks", "[I", true)
  | 7 => ("WatershedMap$Streams", "lengths", "[I", true)
  | 8 => ("WatershedMap$Streams", "awaited", "[I", true)
  | 9 => ("WatershedMap$Streams", "shared", "[Z", true)
  | 10 => ("WatershedMap$Streams", "order", "[I", true)
  | _ => ("WatershedMap$Streams", "ordered", "I", false)
def mj_T7 : u_T := fun k => match k with
  | 0 => ("WatershedMap$Ways", "land", "LWatershedMap$Land;", true)
  | 1 => ("WatershedMap$Ways", "least", "[I", true)
  | _ => ("WatershedMap$Ways", "frontier", "LWatershedMap$Frontier;", true)
def mj_T8 : u_T := fun k => match k with
  | 0 => ("WatershedMap", "land", "LWatershedMap$Land;", true)
  | 1 => ("WatershedMap", "streams", "LWatershedMap$Streams;", true)
  | 2 => ("WatershedMap", "hollows", "LWatershedMap$Hollows;", true)
  | 3 => ("WatershedMap", "contours", "LWatershedMap$Contours;", true)
  | 4 => ("WatershedMap", "sight", "LWatershedMap$Sight;", true)
  | 5 => ("WatershedMap", "ways", "LWatershedMap$Ways;", true)
  | 6 => ("WatershedMap", "endsBefore", "[I", true)
  | _ => ("WatershedMap", "brook", "I", false)
def mj_T9 : u_T := fun k => match k with
  | 0 => ("WatershedMapModel$Land", "w", "I", true)
  | 1 => ("WatershedMapModel$Land", "h", "I", true)
  | _ => ("WatershedMapModel$Land", "heights", "[I", true)
def mj_T10 : u_T := fun k => match k with
  | 0 => ("WatershedMapModel", "thrown", "I", false)
  | 1 => ("WatershedMapModel", "land", "LWatershedMapModel$Land;", false)
  | _ => ("WatershedMapModel", "brook", "I", false)
def mj_T11 : u_T := fun k => match k with
  | 0 => ("java/util/AbstractList", "modCount", "I", false)
  | 1 => ("java/util/ArrayList", "elementData", "[Ljava/lang/Object;", false)
  | _ => ("java/util/ArrayList", "size", "I", false)
abbrev mj_cl : List vw_C := [("WatershedMap$Contours", mj_T0, 6), ("WatershedMap$Frontier", mj_T1, 2), ("WatershedMap$Groups", mj_T2, 1), ("WatershedMap$Hollows", mj_T3, 5), ("WatershedMap$Land", mj_T4, 6), ("WatershedMap$Sight", mj_T5, 1), ("WatershedMap$Streams", mj_T6, 12), ("WatershedMap$Ways", mj_T7, 3), ("WatershedMap", mj_T8, 8), ("WatershedMapModel$Land", mj_T9, 3), ("WatershedMapModel", mj_T10, 3), ("java/util/ArrayList", mj_T11, 3)]
/-- the fields of a class as they are when it is made -/
def mj_df : List (List Value) := [[.null, .null, .null, .int 0, .int 0, .int 0], [.null, .int 0], [.null], [.null, .null, .null, .null, .int 0], [.null, .null, .null, .int 0, .int 0, .int 0], [.null], [.null, .null, .null, .null, .null, .null, .null, .null, .null, .null, .null, .int 0], [.null, .null, .null], [.null, .null, .null, .null, .null, .null, .null, .int 0], [.int 0, .int 0, .null], [.int 0, .null, .int 0], [.int 0, .null, .int 0]]
/-- where the tables say that a class can be made, is initialised -/
def mj_np : List (Nat × Nat) := [(218, 51), (177, 49), (190, 50), (171, 48), (82, 46), (245, 52), (122, 47), (255, 53), (74, 45), (886, 56), (880, 55), (1169, 65)]
/-- where the tables lay a field -/
def mj_lp : List (List Nat) := [[231, 233, 235, 237, 239, 241], [184, 186], [196], [206, 208, 210, 212, 214], [107, 109, 111, 113, 115, 117], [251], [144, 146, 148, 150, 152, 154, 156, 158, 160, 162, 164, 166], [266, 268, 270], [304, 306, 308, 310, 312, 314, 316, 318], [897, 899, 901], [907, 909, 911], [1191, 1187, 1189]]
def mj_cn : List String := ["WatershedMap$Contours", "WatershedMap$Frontier", "WatershedMap$Groups", "WatershedMap$Hollows", "WatershedMap$Land", "WatershedMap$Sight", "WatershedMap$Streams", "WatershedMap$Ways", "WatershedMap", "WatershedMapModel$Land", "WatershedMapModel", "java/util/ArrayList", "java/lang/Math", "java/util/Arrays", "WatershedMapLaw", "java/util/AbstractList", "java/util/AbstractCollection"]
def mj_ob1 : Nat := 79
def mj_ob2 : Nat := 80
/-- where the tables speak of System.arraycopy: native, static, its class initialised -/
def mj_acp : Nat × Nat × Nat := (871, 870, 70)
def mj_NE : Nat := 7
/-- the kinds of arrays that are made -/
def mj_tyl : List FieldType := [.int, .boolean, .long]
def mj_typ : List Nat := [120, 169, 1373]
/-- the static arrays, by their places among the cells -/
def mj_st : List (String × String × String) := [("WatershedMap", "STEP_X", "[I"), ("WatershedMap", "STEP_Y", "[I"), ("WatershedMap", "DIGEST_CONTOURS", "[I"), ("WatershedMapModel", "RIGHT", "[I"), ("WatershedMapModel", "UP", "[I"), ("java/util/ArrayList", "DEFAULTCAPACITY_EMPTY_ELEMENTDATA", "[Ljava/lang/Object;")]
/-- what the static arrays hold -/
def mj_s0 : Nat → Int32 := fun j => [1, 1, 0, (-1), (-1), (-1), 0, 1].getD j 0
def mj_s1 : Nat → Int32 := fun j => [0, 1, 1, 1, 0, (-1), (-1), (-1)].getD j 0
def mj_s2 : Nat → Int32 := fun j => [100, 200, 400].getD j 0
def mj_s3 : Nat → Int32 := fun j => [1, 1, 0, (-1), (-1), (-1), 0, 1].getD j 0
def mj_s4 : Nat → Int32 := fun j => [0, 1, 1, 1, 0, (-1), (-1), (-1)].getD j 0
/-- the cells that stand ahead of the class: static arrays, the script -/
def mj_pre (xs : Nat → Int32) (L : Nat) (r : List ((FieldType × vp_A) ⊕ (Nat × List Value))) : List ((FieldType × vp_A) ⊕ (Nat × List Value)) := .inl (.int, 8, .inl mj_s0) :: .inl (.int, 8, .inl mj_s1) :: .inl (.int, 3, .inl mj_s2) :: .inl (.int, 8, .inl mj_s3) :: .inl (.int, 8, .inl mj_s4) :: .inr (9999, []) :: .inl (.int, L, .inl xs) :: r
def mj_sl : List Nat := [8, 8, 3, 8, 8, 0]
def mj_nest : List Cond := [(Jvm.Cond.methodLinkNest "WatershedMap" (9 : Nat) ({ cls := "WatershedMap$Land", name := "<init>", desc := "()V" } : Jvm.MethodName) "WatershedMap"), (Jvm.Cond.methodLinkNest "WatershedMap$Hollows" (17 : Nat) ({ cls := "WatershedMap$Frontier", name := "<init>", desc := "()V" } : Jvm.MethodName) "WatershedMap"), (Jvm.Cond.methodLinkNest "WatershedMap$Hollows" (24 : Nat) ({ cls := "WatershedMap$Groups", name := "<init>", desc := "()V" } : Jvm.MethodName) "WatershedMap"), (Jvm.Cond.methodLinkNest "WatershedMap$Contours" (17 : Nat) ({ cls := "WatershedMap$Groups", name := "<init>", desc := "()V" } : Jvm.MethodName) "WatershedMap"), (Jvm.Cond.methodLinkNest "WatershedMap$Ways" (17 : Nat) ({ cls := "WatershedMap$Frontier", name := "<init>", desc := "()V" } : Jvm.MethodName) "WatershedMap"), (Jvm.Cond.fieldLinkNest "WatershedMap$Land" (41 : Nat) "WatershedMap" "STEP_X" "[I" "WatershedMap"), (Jvm.Cond.fieldLinkNest "WatershedMap$Land" (44 : Nat) "WatershedMap" "STEP_Y" "[I" "WatershedMap"), (Jvm.Cond.fieldLinkNest "WatershedMapModel$Land" (22 : Nat) "WatershedMapModel" "RIGHT" "[I" "WatershedMapModel"), (Jvm.Cond.fieldLinkNest "WatershedMapModel$Land" (25 : Nat) "WatershedMapModel" "UP" "[I" "WatershedMapModel")]
def mj_nestp : List Nat := [83, 178, 191, 224, 261, 284, 286, 1017, 1019]
def mj_ys : List MethodName := [⟨"WatershedMap", "<init>", "()V"⟩,
  ⟨"WatershedMap$Land", "<init>", "()V"⟩,
  ⟨"WatershedMap$Streams", "<init>", "(LWatershedMap$Land;)V"⟩,
  ⟨"WatershedMap$Hollows", "<init>", "(LWatershedMap$Land;)V"⟩,
  ⟨"WatershedMap$Frontier", "<init>", "()V"⟩,
  ⟨"WatershedMap$Groups", "<init>", "()V"⟩,
  ⟨"WatershedMap$Contours", "<init>", "(LWatershedMap$Land;)V"⟩,
  ⟨"WatershedMap$Sight", "<init>", "(LWatershedMap$Land;)V"⟩,
  ⟨"WatershedMap$Ways", "<init>", "(LWatershedMap$Land;)V"⟩,
  ⟨"WatershedMap$Land", "layOut", "(II)V"⟩,
  ⟨"java/util/Arrays", "fill", "([II)V"⟩,
  ⟨"WatershedMap$Land", "findNeighbours", "(II)V"⟩,
  ⟨"WatershedMap$Land", "numberOf", "(II)I"⟩,
  ⟨"WatershedMap$Land", "has", "(II)Z"⟩,
  ⟨"WatershedMap", "smooth", "()I"⟩,
  ⟨"WatershedMap$Land", "soften", "()I"⟩,
  ⟨"WatershedMap$Land", "neighbour", "(II)I"⟩,
  ⟨"WatershedMap$Land", "exchange", "(II)I"⟩,
  ⟨"WatershedMap", "fill", "()I"⟩,
  ⟨"WatershedMap$Hollows", "find", "()V"⟩,
  ⟨"WatershedMap$Hollows", "findLevels", "()V"⟩,
  ⟨"WatershedMap$Frontier", "clear", "()V"⟩,
  ⟨"WatershedMap$Land", "atEdge", "(I)Z"⟩,
  ⟨"WatershedMap$Frontier", "add", "(I)V"⟩,
  ⟨"WatershedMap$Frontier", "takeLeast", "([I)I"⟩,
  ⟨"WatershedMap$Hollows", "spread", "(I)V"⟩,
  ⟨"java/lang/Math", "max", "(II)I"⟩,
  ⟨"WatershedMap$Groups", "part", "()V"⟩,
  ⟨"WatershedMap$Hollows", "inLake", "(I)Z"⟩,
  ⟨"WatershedMap$Hollows", "depth", "(I)I"⟩,
  ⟨"WatershedMap$Hollows", "joinLakes", "(II)V"⟩,
  ⟨"WatershedMap$Groups", "join", "(II)Z"⟩,
  ⟨"WatershedMap$Groups", "leaderOf", "(I)I"⟩,
  ⟨"WatershedMap$Land", "raiseTo", "([I)I"⟩,
  ⟨"WatershedMap", "basins", "()I"⟩,
  ⟨"WatershedMap$Streams", "run", "(I)V"⟩,
  ⟨"WatershedMap$Streams", "chooseDirection", "(I)V"⟩,
  ⟨"WatershedMap$Land", "slanted", "(I)Z"⟩,
  ⟨"WatershedMap$Streams", "putInOrder", "()V"⟩,
  ⟨"WatershedMap$Streams", "putNext", "(I)V"⟩,
  ⟨"WatershedMap$Streams", "passDown", "(II)V"⟩,
  ⟨"WatershedMap$Streams", "findEnd", "(I)V"⟩,
  ⟨"WatershedMap$Streams", "count", "(I)I"⟩,
  ⟨"WatershedMap", "pits", "()I"⟩,
  ⟨"WatershedMap", "mostRank", "()I"⟩,
  ⟨"WatershedMap$Streams", "greatestOf", "([I)I"⟩,
  ⟨"WatershedMap", "longestStream", "()I"⟩,
  ⟨"WatershedMap", "lakes", "()I"⟩,
  ⟨"WatershedMap", "volume", "()I"⟩,
  ⟨"WatershedMap$Hollows", "content", "()I"⟩,
  ⟨"WatershedMap", "steepness", "()D"⟩,
  ⟨"WatershedMap$Land", "meanSteepness", "()D"⟩,
  ⟨"WatershedMap$Land", "steepnessOf", "(I)I"⟩,
  ⟨"WatershedMap$Land", "difference", "(II)I"⟩,
  ⟨"java/lang/Math", "abs", "(I)I"⟩,
  ⟨"WatershedMap", "digest", "()J"⟩,
  ⟨"WatershedMap", "digestOfMap", "(J)J"⟩,
  ⟨"WatershedMap$Land", "told", "(I)I"⟩,
  ⟨"WatershedMap$Land", "lowest", "()I"⟩,
  ⟨"java/lang/Math", "min", "(II)I"⟩,
  ⟨"WatershedMap$Land", "greatest", "()I"⟩,
  ⟨"WatershedMap$Land", "sum", "()I"⟩,
  ⟨"WatershedMap$Contours", "draw", "(I)V"⟩,
  ⟨"WatershedMap$Contours", "drawSquare", "(III)V"⟩,
  ⟨"WatershedMap$Contours", "sideRightOf", "(I)I"⟩,
  ⟨"WatershedMap$Contours", "sideBelow", "(I)I"⟩,
  ⟨"WatershedMap$Contours", "sumOfSquare", "(II)I"⟩,
  ⟨"WatershedMap$Contours", "addPiece", "(II)V"⟩,
  ⟨"WatershedMap$Contours", "tie", "(II)V"⟩,
  ⟨"WatershedMap$Contours", "told", "(I)I"⟩,
  ⟨"WatershedMap", "digestOfFields", "(J)J"⟩,
  ⟨"WatershedMap$Streams", "told", "(II)I"⟩,
  ⟨"WatershedMap", "reset", "(II)I"⟩,
  ⟨"WatershedMap", "checkRange", "(III)V"⟩,
  ⟨"WatershedMap", "set", "(III)I"⟩,
  ⟨"WatershedMap", "checkField", "(II)V"⟩,
  ⟨"WatershedMap", "tilt", "(III)I"⟩,
  ⟨"WatershedMap$Land", "slope", "(III)V"⟩,
  ⟨"WatershedMap", "hill", "(IIII)I"⟩,
  ⟨"WatershedMap$Land", "raise", "(IIII)I"⟩,
  ⟨"WatershedMap", "dig", "(IIIII)I"⟩,
  ⟨"WatershedMap$Land", "cutDown", "(IIIII)I"⟩,
  ⟨"WatershedMap$Land", "stepsBetween", "(IIII)I"⟩,
  ⟨"WatershedMap$Land", "between", "(IIII)I"⟩,
  ⟨"java/lang/Math", "floorDiv", "(II)I"⟩,
  ⟨"WatershedMap", "wear", "(I)I"⟩,
  ⟨"WatershedMap$Land", "washAway", "(LWatershedMap$Streams;I)I"⟩,
  ⟨"WatershedMap", "setBrook", "(I)I"⟩,
  ⟨"WatershedMap", "map", "(I)I"⟩,
  ⟨"WatershedMap", "height", "(II)I"⟩,
  ⟨"WatershedMap", "water", "(III)I"⟩,
  ⟨"WatershedMap", "level", "(II)I"⟩,
  ⟨"WatershedMap", "lake", "(III)I"⟩,
  ⟨"WatershedMap$Hollows", "sizeOfLake", "(I)I"⟩,
  ⟨"WatershedMap$Hollows", "inOneLake", "(II)Z"⟩,
  ⟨"WatershedMap$Hollows", "contentOfLake", "(I)I"⟩,
  ⟨"WatershedMap", "contour", "(II)I"⟩,
  ⟨"WatershedMap", "sees", "(IIIII)Z"⟩,
  ⟨"WatershedMap$Sight", "reaches", "(IIIII)Z"⟩,
  ⟨"WatershedMap", "seen", "(III)I"⟩,
  ⟨"WatershedMap$Sight", "countFrom", "(III)I"⟩,
  ⟨"WatershedMap", "takes", "(IIII)I"⟩,
  ⟨"WatershedMap$Ways", "spreadFrom", "(I)V"⟩,
  ⟨"WatershedMap$Ways", "spread", "(I)V"⟩,
  ⟨"WatershedMap$Ways", "step", "(III)I"⟩,
  ⟨"WatershedMap", "way", "(IIIII)I"⟩,
  ⟨"WatershedMap$Ways", "goBack", "(III)I"⟩,
  ⟨"WatershedMap$Ways", "fieldAhead", "(I)I"⟩,
  ⟨"WatershedMap", "volumeWith", "(III)I"⟩,
  ⟨"WatershedMap", "endsWith", "(III)I"⟩,
  ⟨"WatershedMap", "lookout", "(II)I"⟩,
  ⟨"WatershedMapModel", "<init>", "()V"⟩,
  ⟨"WatershedMapModel$Land", "<init>", "(II[I)V"⟩,
  ⟨"WatershedMapModel", "thrown", "()I"⟩,
  ⟨"WatershedMapModel", "reset", "(II)I"⟩,
  ⟨"WatershedMapModel", "isIn", "(III)Z"⟩,
  ⟨"WatershedMapModel", "start", "(ZI)Z"⟩,
  ⟨"WatershedMapModel", "refuse", "(ZI)Z"⟩,
  ⟨"WatershedMapModel", "set", "(III)I"⟩,
  ⟨"WatershedMapModel", "isNoField", "(II)Z"⟩,
  ⟨"WatershedMapModel", "isNo", "(II)Z"⟩,
  ⟨"WatershedMapModel", "number", "(II)I"⟩,
  ⟨"WatershedMapModel$Land", "with", "(II)LWatershedMapModel$Land;"⟩,
  ⟨"WatershedMapModel", "tilt", "(III)I"⟩,
  ⟨"WatershedMapModel", "bound", "(I)I"⟩,
  ⟨"WatershedMapModel", "take", "([I)I"⟩,
  ⟨"WatershedMapModel$Land", "others", "([I)I"⟩,
  ⟨"WatershedMapModel$Land", "size", "()I"⟩,
  ⟨"WatershedMapModel$Land", "greatest", "()I"⟩,
  ⟨"WatershedMapModel", "hill", "(IIII)I"⟩,
  ⟨"WatershedMapModel", "dig", "(IIIII)I"⟩,
  ⟨"WatershedMapModel$Land", "far", "(II)I"⟩,
  ⟨"WatershedMapModel$Land", "between", "(III)I"⟩,
  ⟨"WatershedMapModel", "smooth", "()I"⟩,
  ⟨"WatershedMapModel$Land", "next", "(II)I"⟩,
  ⟨"WatershedMapModel", "wear", "(I)I"⟩,
  ⟨"WatershedMapModel$Land", "to", "()[I"⟩,
  ⟨"WatershedMapModel$Land", "goes", "(I)I"⟩,
  ⟨"WatershedMapModel$Land", "isEdge", "(I)Z"⟩,
  ⟨"WatershedMapModel$Land", "flows", "([I)[I"⟩,
  ⟨"WatershedMapModel", "fill", "()I"⟩,
  ⟨"WatershedMapModel$Land", "volume", "()I"⟩,
  ⟨"WatershedMapModel$Land", "levels", "()[I"⟩,
  ⟨"WatershedMapModel", "setBrook", "(I)I"⟩,
  ⟨"WatershedMapModel", "map", "(I)I"⟩,
  ⟨"WatershedMapModel", "of", "(I)I"⟩,
  ⟨"WatershedMapModel$Land", "least", "()I"⟩,
  ⟨"WatershedMapModel$Land", "sum", "()I"⟩,
  ⟨"WatershedMapModel", "height", "(II)I"⟩,
  ⟨"WatershedMapModel", "water", "(III)I"⟩,
  ⟨"WatershedMapModel", "water", "(II[I[I)I"⟩,
  ⟨"WatershedMapModel$Land", "end", "([II)I"⟩,
  ⟨"WatershedMapModel$Land", "rank", "([I[III)I"⟩,
  ⟨"WatershedMapModel$Land", "steps", "([II)I"⟩,
  ⟨"WatershedMapModel", "basins", "()I"⟩,
  ⟨"WatershedMapModel", "many", "(I)I"⟩,
  ⟨"WatershedMapModel", "plain", "(I)I"⟩,
  ⟨"WatershedMapModel", "pits", "()I"⟩,
  ⟨"WatershedMapModel", "mostRank", "()I"⟩,
  ⟨"WatershedMapModel", "mostRankNow", "()I"⟩,
  ⟨"WatershedMapModel", "longestStream", "()I"⟩,
  ⟨"WatershedMapModel", "longestNow", "()I"⟩,
  ⟨"WatershedMapModel", "level", "(II)I"⟩,
  ⟨"WatershedMapModel", "lakes", "()I"⟩,
  ⟨"WatershedMapModel", "lakesNow", "()I"⟩,
  ⟨"WatershedMapModel$Land", "lakes", "()[I"⟩,
  ⟨"WatershedMapModel", "lake", "(III)I"⟩,
  ⟨"WatershedMapModel", "volume", "()I"⟩,
  ⟨"WatershedMapModel", "contour", "(II)I"⟩,
  ⟨"WatershedMapModel$Land", "contour", "(I)[I"⟩,
  ⟨"WatershedMapModel$Land", "pieces", "(I)Ljava/util/ArrayList;"⟩,
  ⟨"java/util/ArrayList", "<init>", "()V"⟩,
  ⟨"java/util/AbstractList", "<init>", "()V"⟩,
  ⟨"java/util/AbstractCollection", "<init>", "()V"⟩,
  ⟨"WatershedMapModel$Land", "isHigh", "(II)Z"⟩,
  ⟨"java/util/ArrayList", "size", "()I"⟩,
  ⟨"WatershedMapModel$Land", "haveOne", "([I[I)Z"⟩,
  ⟨"WatershedMapModel$Land", "isTwice", "(Ljava/util/ArrayList;I)Z"⟩,
  ⟨"WatershedMapModel", "sees", "(IIIII)Z"⟩,
  ⟨"WatershedMapModel$Land", "sees", "(III)Z"⟩,
  ⟨"WatershedMapModel", "seen", "(III)I"⟩,
  ⟨"WatershedMapModel$Land", "seen", "(II)I"⟩,
  ⟨"WatershedMapModel", "takes", "(IIII)I"⟩,
  ⟨"WatershedMapModel$Land", "takes", "(I)[I"⟩,
  ⟨"WatershedMapModel$Land", "step", "(III)I"⟩,
  ⟨"WatershedMapModel", "way", "(IIIII)I"⟩,
  ⟨"WatershedMapModel$Land", "way", "(III)I"⟩,
  ⟨"WatershedMapModel", "steepness", "()D"⟩,
  ⟨"WatershedMapModel$Land", "steepness", "()D"⟩,
  ⟨"WatershedMapModel", "volumeWith", "(III)I"⟩,
  ⟨"WatershedMapModel", "endsWith", "(III)I"⟩,
  ⟨"WatershedMapModel", "lookout", "(II)I"⟩,
  ⟨"WatershedMapModel", "digest", "()J"⟩,
  ⟨"WatershedMapModel", "add", "(JJ)J"⟩]
-- name, bytes, locals, answer, own class, parameters, places of: code, instanceMethod or static, selects (instance methods), initialized
abbrev mj_M : Type := Nat × ByteArray × Nat × Option FieldType × Nat × Nat × Nat × Nat × Nat × Nat × Nat × (Nat → Option mj_I)
/-- WatershedMap.<init>()V -/
def k_W_init : Nat → Option mj_I := fun pc =>
  bif Nat.blt pc 57 then (bif Nat.blt pc 27 then (bif Nat.blt pc 12 then (bif Nat.blt pc 5 then (bif Nat.blt pc 1 then (bif Nat.beq pc 0 then some (.aload_n 0, 1, 0, 0, 0, mj_u) else none) else
      (bif Nat.blt pc 4 then (bif Nat.beq pc 1 then some (.invokespecial 1, 3, 1000, 0, 78, mj_u) else none) else
       (bif Nat.beq pc 4 then some (.aload_n 0, 1, 0, 0, 0, mj_u) else none))) else
     (bif Nat.blt pc 8 then (bif Nat.beq pc 5 then some (.new 7, 3, 4, 82, 81, mj_u) else none) else
      (bif Nat.blt pc 9 then (bif Nat.beq pc 8 then some (.dup, 1, 0, 0, 0, mj_u) else none) else
       (bif Nat.beq pc 9 then some (.invokespecial 9, 3, 1, 1, 83, mj_u) else none)))) else
    (bif Nat.blt pc 19 then (bif Nat.blt pc 15 then (bif Nat.beq pc 12 then some (.putfield 10, 3, 8, 0, 296, .null) else none) else
      (bif Nat.blt pc 16 then (bif Nat.beq pc 15 then some (.aload_n 0, 1, 0, 0, 0, mj_u) else none) else
       (bif Nat.beq pc 16 then some (.new 16, 3, 6, 122, 121, mj_u) else none))) else
     (bif Nat.blt pc 21 then (bif Nat.blt pc 20 then (bif Nat.beq pc 19 then some (.dup, 1, 0, 0, 0, mj_u) else none) else
       (bif Nat.beq pc 20 then some (.aload_n 0, 1, 0, 0, 0, mj_u) else none)) else
      (bif Nat.blt pc 24 then (bif Nat.beq pc 21 then some (.getfield 10, 3, 8, 0, 296, .null) else none) else
       (bif Nat.beq pc 24 then some (.invokespecial 18, 3, 2, 0, 123, mj_u) else none))))) else
   (bif Nat.blt pc 42 then (bif Nat.blt pc 34 then (bif Nat.blt pc 30 then (bif Nat.beq pc 27 then some (.putfield 21, 3, 8, 1, 297, .null) else none) else
      (bif Nat.blt pc 31 then (bif Nat.beq pc 30 then some (.aload_n 0, 1, 0, 0, 0, mj_u) else none) else
       (bif Nat.beq pc 31 then some (.new 25, 3, 3, 171, 170, mj_u) else none))) else
     (bif Nat.blt pc 36 then (bif Nat.blt pc 35 then (bif Nat.beq pc 34 then some (.dup, 1, 0, 0, 0, mj_u) else none) else
       (bif Nat.beq pc 35 then some (.aload_n 0, 1, 0, 0, 0, mj_u) else none)) else
      (bif Nat.blt pc 39 then (bif Nat.beq pc 36 then some (.getfield 10, 3, 8, 0, 296, .null) else none) else
       (bif Nat.beq pc 39 then some (.invokespecial 27, 3, 3, 0, 172, mj_u) else none)))) else
    (bif Nat.blt pc 49 then (bif Nat.blt pc 45 then (bif Nat.beq pc 42 then some (.putfield 28, 3, 8, 2, 298, .null) else none) else
      (bif Nat.blt pc 46 then (bif Nat.beq pc 45 then some (.aload_n 0, 1, 0, 0, 0, mj_u) else none) else
       (bif Nat.beq pc 46 then some (.new 32, 3, 0, 218, 217, mj_u) else none))) else
     (bif Nat.blt pc 51 then (bif Nat.blt pc 50 then (bif Nat.beq pc 49 then some (.dup, 1, 0, 0, 0, mj_u) else none) else
       (bif Nat.beq pc 50 then some (.aload_n 0, 1, 0, 0, 0, mj_u) else none)) else
      (bif Nat.blt pc 54 then (bif Nat.beq pc 51 then some (.getfield 10, 3, 8, 0, 296, .null) else none) else
       (bif Nat.beq pc 54 then some (.invokespecial 34, 3, 6, 0, 219, mj_u) else none)))))) else
  (bif Nat.blt pc 87 then (bif Nat.blt pc 72 then (bif Nat.blt pc 64 then (bif Nat.blt pc 60 then (bif Nat.beq pc 57 then some (.putfield 35, 3, 8, 3, 299, .null) else none) else
      (bif Nat.blt pc 61 then (bif Nat.beq pc 60 then some (.aload_n 0, 1, 0, 0, 0, mj_u) else none) else
       (bif Nat.beq pc 61 then some (.new 39, 3, 5, 245, 244, mj_u) else none))) else
     (bif Nat.blt pc 66 then (bif Nat.blt pc 65 then (bif Nat.beq pc 64 then some (.dup, 1, 0, 0, 0, mj_u) else none) else
       (bif Nat.beq pc 65 then some (.aload_n 0, 1, 0, 0, 0, mj_u) else none)) else
      (bif Nat.blt pc 69 then (bif Nat.beq pc 66 then some (.getfield 10, 3, 8, 0, 296, .null) else none) else
       (bif Nat.beq pc 69 then some (.invokespecial 41, 3, 7, 0, 246, mj_u) else none)))) else
    (bif Nat.blt pc 79 then (bif Nat.blt pc 75 then (bif Nat.beq pc 72 then some (.putfield 42, 3, 8, 4, 300, .null) else none) else
      (bif Nat.blt pc 76 then (bif Nat.beq pc 75 then some (.aload_n 0, 1, 0, 0, 0, mj_u) else none) else
       (bif Nat.beq pc 76 then some (.new 46, 3, 7, 255, 254, mj_u) else none))) else
     (bif Nat.blt pc 81 then (bif Nat.blt pc 80 then (bif Nat.beq pc 79 then some (.dup, 1, 0, 0, 0, mj_u) else none) else
       (bif Nat.beq pc 80 then some (.aload_n 0, 1, 0, 0, 0, mj_u) else none)) else
      (bif Nat.blt pc 84 then (bif Nat.beq pc 81 then some (.getfield 10, 3, 8, 0, 296, .null) else none) else
       (bif Nat.beq pc 84 then some (.invokespecial 48, 3, 8, 0, 256, mj_u) else none))))) else
   (bif Nat.blt pc 101 then (bif Nat.blt pc 94 then (bif Nat.blt pc 90 then (bif Nat.beq pc 87 then some (.putfield 49, 3, 8, 5, 301, .null) else none) else
      (bif Nat.blt pc 91 then (bif Nat.beq pc 90 then some (.aload_n 0, 1, 0, 0, 0, mj_u) else none) else
       (bif Nat.beq pc 91 then some (.sipush 256, 3, 0, 0, 0, .int 256) else none))) else
     (bif Nat.blt pc 99 then (bif Nat.blt pc 96 then (bif Nat.beq pc 94 then some (.newarray .int, 2, 0, 0, 0, mj_u) else none) else
       (bif Nat.beq pc 96 then some (.putfield 53, 3, 8, 6, 302, .null) else none)) else
      (bif Nat.blt pc 100 then (bif Nat.beq pc 99 then some (.aload_n 0, 1, 0, 0, 0, mj_u) else none) else
       (bif Nat.beq pc 100 then some (.iconst 5, 1, 0, 0, 0, .int 5) else none)))) else
    (bif Nat.blt pc 108 then (bif Nat.blt pc 104 then (bif Nat.beq pc 101 then some (.putfield 57, 3, 8, 7, 303, .int 0) else none) else
      (bif Nat.blt pc 105 then (bif Nat.beq pc 104 then some (.aload_n 0, 1, 0, 0, 0, mj_u) else none) else
       (bif Nat.beq pc 105 then some (.getfield 10, 3, 8, 0, 296, .null) else none))) else
     (bif Nat.blt pc 112 then (bif Nat.blt pc 110 then (bif Nat.beq pc 108 then some (.bipush 12, 2, 0, 0, 0, .int 12) else none) else
       (bif Nat.beq pc 110 then some (.bipush 12, 2, 0, 0, 0, .int 12) else none)) else
      (bif Nat.blt pc 115 then (bif Nat.beq pc 112 then some (.invokevirtual 61, 3, 9, 0, 273, mj_u) else none) else
       (bif Nat.beq pc 115 then some (.return_, 1, 0, 0, 0, mj_u) else none))))))
def m_W_init : mj_M := (0, prog_1_method_1_code, 1, (Option.none : Option Jvm.ClassFile.FieldType), 8, 0, 77, 76, 0, 45, 116, k_W_init)
/-- WatershedMap$Land.<init>()V -/
def k_Land_init : Nat → Option mj_I := fun pc =>
  bif Nat.blt pc 14 then (bif Nat.blt pc 5 then (bif Nat.blt pc 1 then (bif Nat.beq pc 0 then some (.aload_n 0, 1, 0, 0, 0, mj_u) else none) else
    (bif Nat.blt pc 4 then (bif Nat.beq pc 1 then some (.invokespecial 3, 3, 1000, 0, 86, mj_u) else none) else
     (bif Nat.beq pc 4 then some (.aload_n 0, 1, 0, 0, 0, mj_u) else none))) else
   (bif Nat.blt pc 10 then (bif Nat.blt pc 8 then (bif Nat.beq pc 5 then some (.sipush 256, 3, 0, 0, 0, .int 256) else none) else
     (bif Nat.beq pc 8 then some (.newarray .int, 2, 0, 0, 0, mj_u) else none)) else
    (bif Nat.blt pc 13 then (bif Nat.beq pc 10 then some (.putfield 9, 3, 4, 0, 87, .null) else none) else
     (bif Nat.beq pc 13 then some (.aload_n 0, 1, 0, 0, 0, mj_u) else none)))) else
  (bif Nat.blt pc 23 then (bif Nat.blt pc 19 then (bif Nat.blt pc 17 then (bif Nat.beq pc 14 then some (.sipush 256, 3, 0, 0, 0, .int 256) else none) else
     (bif Nat.beq pc 17 then some (.newarray .int, 2, 0, 0, 0, mj_u) else none)) else
    (bif Nat.blt pc 22 then (bif Nat.beq pc 19 then some (.putfield 15, 3, 4, 1, 93, .null) else none) else
     (bif Nat.beq pc 22 then some (.aload_n 0, 1, 0, 0, 0, mj_u) else none))) else
   (bif Nat.blt pc 28 then (bif Nat.blt pc 26 then (bif Nat.beq pc 23 then some (.sipush 2048, 3, 0, 0, 0, .int 2048) else none) else
     (bif Nat.beq pc 26 then some (.newarray .int, 2, 0, 0, 0, mj_u) else none)) else
    (bif Nat.blt pc 31 then (bif Nat.beq pc 28 then some (.putfield 18, 3, 4, 2, 94, .null) else none) else
     (bif Nat.beq pc 31 then some (.return_, 1, 0, 0, 0, mj_u) else none))))
def m_Land_init : mj_M := (1, prog_6_method_1_code, 1, (Option.none : Option Jvm.ClassFile.FieldType), 4, 0, 85, 84, 0, 46, 32, k_Land_init)
/-- WatershedMap$Streams.<init>(LWatershedMap$Land;)V -/
def k_Streams_init : Nat → Option mj_I := fun pc =>
  bif Nat.blt pc 50 then (bif Nat.blt pc 23 then (bif Nat.blt pc 10 then (bif Nat.blt pc 4 then (bif Nat.blt pc 1 then (bif Nat.beq pc 0 then some (.aload_n 0, 1, 0, 0, 0, mj_u) else none) else
      (bif Nat.beq pc 1 then some (.invokespecial 3, 3, 1000, 0, 126, mj_u) else none)) else
     (bif Nat.blt pc 5 then (bif Nat.beq pc 4 then some (.aload_n 0, 1, 0, 0, 0, mj_u) else none) else
      (bif Nat.blt pc 8 then (bif Nat.beq pc 5 then some (.sipush 256, 3, 0, 0, 0, .int 256) else none) else
       (bif Nat.beq pc 8 then some (.newarray .int, 2, 0, 0, 0, mj_u) else none)))) else
    (bif Nat.blt pc 17 then (bif Nat.blt pc 13 then (bif Nat.beq pc 10 then some (.putfield 9, 3, 6, 1, 128, .null) else none) else
      (bif Nat.blt pc 14 then (bif Nat.beq pc 13 then some (.aload_n 0, 1, 0, 0, 0, mj_u) else none) else
       (bif Nat.beq pc 14 then some (.sipush 256, 3, 0, 0, 0, .int 256) else none))) else
     (bif Nat.blt pc 19 then (bif Nat.beq pc 17 then some (.newarray .int, 2, 0, 0, 0, mj_u) else none) else
      (bif Nat.blt pc 22 then (bif Nat.beq pc 19 then some (.putfield 15, 3, 6, 2, 129, .null) else none) else
       (bif Nat.beq pc 22 then some (.aload_n 0, 1, 0, 0, 0, mj_u) else none))))) else
   (bif Nat.blt pc 37 then (bif Nat.blt pc 31 then (bif Nat.blt pc 26 then (bif Nat.beq pc 23 then some (.sipush 256, 3, 0, 0, 0, .int 256) else none) else
      (bif Nat.blt pc 28 then (bif Nat.beq pc 26 then some (.newarray .int, 2, 0, 0, 0, mj_u) else none) else
       (bif Nat.beq pc 28 then some (.putfield 18, 3, 6, 3, 131, .null) else none))) else
     (bif Nat.blt pc 32 then (bif Nat.beq pc 31 then some (.aload_n 0, 1, 0, 0, 0, mj_u) else none) else
      (bif Nat.blt pc 35 then (bif Nat.beq pc 32 then some (.sipush 256, 3, 0, 0, 0, .int 256) else none) else
       (bif Nat.beq pc 35 then some (.newarray .int, 2, 0, 0, 0, mj_u) else none)))) else
    (bif Nat.blt pc 44 then (bif Nat.blt pc 40 then (bif Nat.beq pc 37 then some (.putfield 21, 3, 6, 4, 133, .null) else none) else
      (bif Nat.blt pc 41 then (bif Nat.beq pc 40 then some (.aload_n 0, 1, 0, 0, 0, mj_u) else none) else
       (bif Nat.beq pc 41 then some (.sipush 256, 3, 0, 0, 0, .int 256) else none))) else
     (bif Nat.blt pc 46 then (bif Nat.beq pc 44 then some (.newarray .int, 2, 0, 0, 0, mj_u) else none) else
      (bif Nat.blt pc 49 then (bif Nat.beq pc 46 then some (.putfield 24, 3, 6, 5, 135, .null) else none) else
       (bif Nat.beq pc 49 then some (.aload_n 0, 1, 0, 0, 0, mj_u) else none)))))) else
  (bif Nat.blt pc 76 then (bif Nat.blt pc 62 then (bif Nat.blt pc 55 then (bif Nat.blt pc 53 then (bif Nat.beq pc 50 then some (.sipush 256, 3, 0, 0, 0, .int 256) else none) else
      (bif Nat.beq pc 53 then some (.newarray .int, 2, 0, 0, 0, mj_u) else none)) else
     (bif Nat.blt pc 58 then (bif Nat.beq pc 55 then some (.putfield 27, 3, 6, 6, 136, .null) else none) else
      (bif Nat.blt pc 59 then (bif Nat.beq pc 58 then some (.aload_n 0, 1, 0, 0, 0, mj_u) else none) else
       (bif Nat.beq pc 59 then some (.sipush 256, 3, 0, 0, 0, .int 256) else none)))) else
    (bif Nat.blt pc 68 then (bif Nat.blt pc 64 then (bif Nat.beq pc 62 then some (.newarray .int, 2, 0, 0, 0, mj_u) else none) else
      (bif Nat.blt pc 67 then (bif Nat.beq pc 64 then some (.putfield 30, 3, 6, 7, 138, .null) else none) else
       (bif Nat.beq pc 67 then some (.aload_n 0, 1, 0, 0, 0, mj_u) else none))) else
     (bif Nat.blt pc 71 then (bif Nat.beq pc 68 then some (.sipush 256, 3, 0, 0, 0, .int 256) else none) else
      (bif Nat.blt pc 73 then (bif Nat.beq pc 71 then some (.newarray .int, 2, 0, 0, 0, mj_u) else none) else
       (bif Nat.beq pc 73 then some (.putfield 33, 3, 6, 8, 140, .null) else none))))) else
   (bif Nat.blt pc 89 then (bif Nat.blt pc 82 then (bif Nat.blt pc 77 then (bif Nat.beq pc 76 then some (.aload_n 0, 1, 0, 0, 0, mj_u) else none) else
      (bif Nat.blt pc 80 then (bif Nat.beq pc 77 then some (.sipush 256, 3, 0, 0, 0, .int 256) else none) else
       (bif Nat.beq pc 80 then some (.newarray .boolean, 2, 0, 0, 0, mj_u) else none))) else
     (bif Nat.blt pc 85 then (bif Nat.beq pc 82 then some (.putfield 36, 3, 6, 9, 141, .null) else none) else
      (bif Nat.blt pc 86 then (bif Nat.beq pc 85 then some (.aload_n 0, 1, 0, 0, 0, mj_u) else none) else
       (bif Nat.beq pc 86 then some (.sipush 256, 3, 0, 0, 0, .int 256) else none)))) else
    (bif Nat.blt pc 95 then (bif Nat.blt pc 91 then (bif Nat.beq pc 89 then some (.newarray .int, 2, 0, 0, 0, mj_u) else none) else
      (bif Nat.blt pc 94 then (bif Nat.beq pc 91 then some (.putfield 40, 3, 6, 10, 142, .null) else none) else
       (bif Nat.beq pc 94 then some (.aload_n 0, 1, 0, 0, 0, mj_u) else none))) else
     (bif Nat.blt pc 96 then (bif Nat.beq pc 95 then some (.aload_n 1, 1, 1, 0, 0, mj_u) else none) else
      (bif Nat.blt pc 99 then (bif Nat.beq pc 96 then some (.putfield 43, 3, 6, 0, 127, .null) else none) else
       (bif Nat.beq pc 99 then some (.return_, 1, 0, 0, 0, mj_u) else none))))))
def m_Streams_init : mj_M := (2, prog_8_method_1_code, 2, (Option.none : Option Jvm.ClassFile.FieldType), 6, 1, 125, 124, 0, 47, 100, k_Streams_init)
/-- WatershedMap$Hollows.<init>(LWatershedMap$Land;)V -/
def k_Hollows_init : Nat → Option mj_I := fun pc =>
  bif Nat.blt pc 21 then (bif Nat.blt pc 10 then (bif Nat.blt pc 4 then (bif Nat.blt pc 1 then (bif Nat.beq pc 0 then some (.aload_n 0, 1, 0, 0, 0, mj_u) else none) else
     (bif Nat.beq pc 1 then some (.invokespecial 3, 3, 1000, 0, 175, mj_u) else none)) else
    (bif Nat.blt pc 5 then (bif Nat.beq pc 4 then some (.aload_n 0, 1, 0, 0, 0, mj_u) else none) else
     (bif Nat.blt pc 8 then (bif Nat.beq pc 5 then some (.sipush 256, 3, 0, 0, 0, .int 256) else none) else
      (bif Nat.beq pc 8 then some (.newarray .int, 2, 0, 0, 0, mj_u) else none)))) else
   (bif Nat.blt pc 14 then (bif Nat.blt pc 13 then (bif Nat.beq pc 10 then some (.putfield 9, 3, 3, 1, 200, .null) else none) else
     (bif Nat.beq pc 13 then some (.aload_n 0, 1, 0, 0, 0, mj_u) else none)) else
    (bif Nat.blt pc 17 then (bif Nat.beq pc 14 then some (.new 15, 3, 1, 177, 176, mj_u) else none) else
     (bif Nat.blt pc 18 then (bif Nat.beq pc 17 then some (.dup, 1, 0, 0, 0, mj_u) else none) else
      (bif Nat.beq pc 18 then some (.invokespecial 17, 3, 4, 1, 178, mj_u) else none))))) else
  (bif Nat.blt pc 32 then (bif Nat.blt pc 25 then (bif Nat.blt pc 24 then (bif Nat.beq pc 21 then some (.putfield 18, 3, 3, 2, 202, .null) else none) else
     (bif Nat.beq pc 24 then some (.aload_n 0, 1, 0, 0, 0, mj_u) else none)) else
    (bif Nat.blt pc 28 then (bif Nat.beq pc 25 then some (.new 22, 3, 2, 190, 189, mj_u) else none) else
     (bif Nat.blt pc 29 then (bif Nat.beq pc 28 then some (.dup, 1, 0, 0, 0, mj_u) else none) else
      (bif Nat.beq pc 29 then some (.invokespecial 24, 3, 5, 1, 191, mj_u) else none)))) else
   (bif Nat.blt pc 36 then (bif Nat.blt pc 35 then (bif Nat.beq pc 32 then some (.putfield 25, 3, 3, 3, 203, .null) else none) else
     (bif Nat.beq pc 35 then some (.aload_n 0, 1, 0, 0, 0, mj_u) else none)) else
    (bif Nat.blt pc 37 then (bif Nat.beq pc 36 then some (.aload_n 1, 1, 1, 0, 0, mj_u) else none) else
     (bif Nat.blt pc 40 then (bif Nat.beq pc 37 then some (.putfield 29, 3, 3, 0, 199, .null) else none) else
      (bif Nat.beq pc 40 then some (.return_, 1, 0, 0, 0, mj_u) else none)))))
def m_Hollows_init : mj_M := (3, prog_5_method_1_code, 2, (Option.none : Option Jvm.ClassFile.FieldType), 3, 1, 174, 173, 0, 48, 41, k_Hollows_init)
/-- WatershedMap$Frontier.<init>()V -/
def k_Frontier_init : Nat → Option mj_I := fun pc =>
  bif Nat.blt pc 5 then (bif Nat.blt pc 1 then (bif Nat.beq pc 0 then some (.aload_n 0, 1, 0, 0, 0, mj_u) else none) else
   (bif Nat.blt pc 4 then (bif Nat.beq pc 1 then some (.invokespecial 3, 3, 1000, 0, 181, mj_u) else none) else
    (bif Nat.beq pc 4 then some (.aload_n 0, 1, 0, 0, 0, mj_u) else none))) else
  (bif Nat.blt pc 10 then (bif Nat.blt pc 8 then (bif Nat.beq pc 5 then some (.sipush 256, 3, 0, 0, 0, .int 256) else none) else
    (bif Nat.beq pc 8 then some (.newarray .int, 2, 0, 0, 0, mj_u) else none)) else
   (bif Nat.blt pc 13 then (bif Nat.beq pc 10 then some (.putfield 9, 3, 1, 0, 182, .null) else none) else
    (bif Nat.beq pc 13 then some (.return_, 1, 0, 0, 0, mj_u) else none)))
def m_Frontier_init : mj_M := (4, prog_3_method_1_code, 1, (Option.none : Option Jvm.ClassFile.FieldType), 1, 0, 180, 179, 0, 49, 14, k_Frontier_init)
/-- WatershedMap$Groups.<init>()V -/
def k_Groups_init : Nat → Option mj_I := fun pc =>
  bif Nat.blt pc 5 then (bif Nat.blt pc 1 then (bif Nat.beq pc 0 then some (.aload_n 0, 1, 0, 0, 0, mj_u) else none) else
   (bif Nat.blt pc 4 then (bif Nat.beq pc 1 then some (.invokespecial 3, 3, 1000, 0, 194, mj_u) else none) else
    (bif Nat.beq pc 4 then some (.aload_n 0, 1, 0, 0, 0, mj_u) else none))) else
  (bif Nat.blt pc 10 then (bif Nat.blt pc 8 then (bif Nat.beq pc 5 then some (.sipush 512, 3, 0, 0, 0, .int 512) else none) else
    (bif Nat.beq pc 8 then some (.newarray .int, 2, 0, 0, 0, mj_u) else none)) else
   (bif Nat.blt pc 13 then (bif Nat.beq pc 10 then some (.putfield 9, 3, 2, 0, 195, .null) else none) else
    (bif Nat.beq pc 13 then some (.return_, 1, 0, 0, 0, mj_u) else none)))
def m_Groups_init : mj_M := (5, prog_4_method_1_code, 1, (Option.none : Option Jvm.ClassFile.FieldType), 2, 0, 193, 192, 0, 50, 14, k_Groups_init)
/-- WatershedMap$Contours.<init>(LWatershedMap$Land;)V -/
def k_Contours_init : Nat → Option mj_I := fun pc =>
  bif Nat.blt pc 14 then (bif Nat.blt pc 5 then (bif Nat.blt pc 1 then (bif Nat.beq pc 0 then some (.aload_n 0, 1, 0, 0, 0, mj_u) else none) else
    (bif Nat.blt pc 4 then (bif Nat.beq pc 1 then some (.invokespecial 3, 3, 1000, 0, 222, mj_u) else none) else
     (bif Nat.beq pc 4 then some (.aload_n 0, 1, 0, 0, 0, mj_u) else none))) else
   (bif Nat.blt pc 10 then (bif Nat.blt pc 8 then (bif Nat.beq pc 5 then some (.sipush 512, 3, 0, 0, 0, .int 512) else none) else
     (bif Nat.beq pc 8 then some (.newarray .int, 2, 0, 0, 0, mj_u) else none)) else
    (bif Nat.blt pc 13 then (bif Nat.beq pc 10 then some (.putfield 9, 3, 0, 1, 226, .null) else none) else
     (bif Nat.beq pc 13 then some (.aload_n 0, 1, 0, 0, 0, mj_u) else none)))) else
  (bif Nat.blt pc 24 then (bif Nat.blt pc 18 then (bif Nat.blt pc 17 then (bif Nat.beq pc 14 then some (.new 15, 3, 2, 190, 223, mj_u) else none) else
     (bif Nat.beq pc 17 then some (.dup, 1, 0, 0, 0, mj_u) else none)) else
    (bif Nat.blt pc 21 then (bif Nat.beq pc 18 then some (.invokespecial 17, 3, 5, 1, 224, mj_u) else none) else
     (bif Nat.beq pc 21 then some (.putfield 18, 3, 0, 2, 227, .null) else none))) else
   (bif Nat.blt pc 26 then (bif Nat.blt pc 25 then (bif Nat.beq pc 24 then some (.aload_n 0, 1, 0, 0, 0, mj_u) else none) else
     (bif Nat.beq pc 25 then some (.aload_n 1, 1, 1, 0, 0, mj_u) else none)) else
    (bif Nat.blt pc 29 then (bif Nat.beq pc 26 then some (.putfield 22, 3, 0, 0, 225, .null) else none) else
     (bif Nat.beq pc 29 then some (.return_, 1, 0, 0, 0, mj_u) else none))))
def m_Contours_init : mj_M := (6, prog_2_method_1_code, 2, (Option.none : Option Jvm.ClassFile.FieldType), 0, 1, 221, 220, 0, 51, 30, k_Contours_init)
/-- WatershedMap$Sight.<init>(LWatershedMap$Land;)V -/
def k_Sight_init : Nat → Option mj_I := fun pc =>
  bif Nat.blt pc 5 then (bif Nat.blt pc 1 then (bif Nat.beq pc 0 then some (.aload_n 0, 1, 0, 0, 0, mj_u) else none) else
   (bif Nat.blt pc 4 then (bif Nat.beq pc 1 then some (.invokespecial 1, 3, 1000, 0, 249, mj_u) else none) else
    (bif Nat.beq pc 4 then some (.aload_n 0, 1, 0, 0, 0, mj_u) else none))) else
  (bif Nat.blt pc 6 then (bif Nat.beq pc 5 then some (.aload_n 1, 1, 1, 0, 0, mj_u) else none) else
   (bif Nat.blt pc 9 then (bif Nat.beq pc 6 then some (.putfield 7, 3, 5, 0, 250, .null) else none) else
    (bif Nat.beq pc 9 then some (.return_, 1, 0, 0, 0, mj_u) else none)))
def m_Sight_init : mj_M := (7, prog_7_method_1_code, 2, (Option.none : Option Jvm.ClassFile.FieldType), 5, 1, 248, 247, 0, 52, 10, k_Sight_init)
/-- WatershedMap$Ways.<init>(LWatershedMap$Land;)V -/
def k_Ways_init : Nat → Option mj_I := fun pc =>
  bif Nat.blt pc 14 then (bif Nat.blt pc 5 then (bif Nat.blt pc 1 then (bif Nat.beq pc 0 then some (.aload_n 0, 1, 0, 0, 0, mj_u) else none) else
    (bif Nat.blt pc 4 then (bif Nat.beq pc 1 then some (.invokespecial 3, 3, 1000, 0, 259, mj_u) else none) else
     (bif Nat.beq pc 4 then some (.aload_n 0, 1, 0, 0, 0, mj_u) else none))) else
   (bif Nat.blt pc 10 then (bif Nat.blt pc 8 then (bif Nat.beq pc 5 then some (.sipush 256, 3, 0, 0, 0, .int 256) else none) else
     (bif Nat.beq pc 8 then some (.newarray .int, 2, 0, 0, 0, mj_u) else none)) else
    (bif Nat.blt pc 13 then (bif Nat.beq pc 10 then some (.putfield 9, 3, 7, 1, 263, .null) else none) else
     (bif Nat.beq pc 13 then some (.aload_n 0, 1, 0, 0, 0, mj_u) else none)))) else
  (bif Nat.blt pc 24 then (bif Nat.blt pc 18 then (bif Nat.blt pc 17 then (bif Nat.beq pc 14 then some (.new 15, 3, 1, 177, 260, mj_u) else none) else
     (bif Nat.beq pc 17 then some (.dup, 1, 0, 0, 0, mj_u) else none)) else
    (bif Nat.blt pc 21 then (bif Nat.beq pc 18 then some (.invokespecial 17, 3, 4, 1, 261, mj_u) else none) else
     (bif Nat.beq pc 21 then some (.putfield 18, 3, 7, 2, 265, .null) else none))) else
   (bif Nat.blt pc 26 then (bif Nat.blt pc 25 then (bif Nat.beq pc 24 then some (.aload_n 0, 1, 0, 0, 0, mj_u) else none) else
     (bif Nat.beq pc 25 then some (.aload_n 1, 1, 1, 0, 0, mj_u) else none)) else
    (bif Nat.blt pc 29 then (bif Nat.beq pc 26 then some (.putfield 22, 3, 7, 0, 262, .null) else none) else
     (bif Nat.beq pc 29 then some (.return_, 1, 0, 0, 0, mj_u) else none))))
def m_Ways_init : mj_M := (8, prog_9_method_1_code, 2, (Option.none : Option Jvm.ClassFile.FieldType), 7, 1, 258, 257, 0, 53, 30, k_Ways_init)
/-- WatershedMap$Land.layOut(II)V -/
def k_Land_layOut : Nat → Option mj_I := fun pc =>
  bif Nat.blt pc 28 then (bif Nat.blt pc 13 then (bif Nat.blt pc 6 then (bif Nat.blt pc 2 then (bif Nat.blt pc 1 then (bif Nat.beq pc 0 then some (.aload_n 0, 1, 0, 0, 0, mj_u) else none) else
      (bif Nat.beq pc 1 then some (.iload_n 1, 1, 1, 0, 0, mj_u) else none)) else
     (bif Nat.blt pc 5 then (bif Nat.beq pc 2 then some (.putfield 21, 3, 4, 3, 95, .int 0) else none) else
      (bif Nat.beq pc 5 then some (.aload_n 0, 1, 0, 0, 0, mj_u) else none))) else
    (bif Nat.blt pc 10 then (bif Nat.blt pc 7 then (bif Nat.beq pc 6 then some (.iload_n 2, 1, 2, 0, 0, mj_u) else none) else
      (bif Nat.beq pc 7 then some (.putfield 25, 3, 4, 4, 99, .int 0) else none)) else
     (bif Nat.blt pc 11 then (bif Nat.beq pc 10 then some (.aload_n 0, 1, 0, 0, 0, mj_u) else none) else
      (bif Nat.blt pc 12 then (bif Nat.beq pc 11 then some (.iload_n 1, 1, 1, 0, 0, mj_u) else none) else
       (bif Nat.beq pc 12 then some (.iload_n 2, 1, 2, 0, 0, mj_u) else none))))) else
   (bif Nat.blt pc 21 then (bif Nat.blt pc 17 then (bif Nat.blt pc 14 then (bif Nat.beq pc 13 then some (.imul, 1, 0, 0, 0, mj_u) else none) else
      (bif Nat.beq pc 14 then some (.putfield 28, 3, 4, 5, 103, .int 0) else none)) else
     (bif Nat.blt pc 18 then (bif Nat.beq pc 17 then some (.aload_n 0, 1, 0, 0, 0, mj_u) else none) else
      (bif Nat.beq pc 18 then some (.getfield 9, 3, 4, 0, 87, .null) else none))) else
    (bif Nat.blt pc 25 then (bif Nat.blt pc 22 then (bif Nat.beq pc 21 then some (.iconst 0, 1, 0, 0, 0, .int 0) else none) else
      (bif Nat.beq pc 22 then some (.invokestatic 31, 3, 10, 0, 277, mj_u) else none)) else
     (bif Nat.blt pc 26 then (bif Nat.beq pc 25 then some (.iconst 0, 1, 0, 0, 0, .int 0) else none) else
      (bif Nat.blt pc 27 then (bif Nat.beq pc 26 then some (.istore_n 3, 1, 3, 0, 0, mj_u) else none) else
       (bif Nat.beq pc 27 then some (.iload_n 3, 1, 3, 0, 0, mj_u) else none)))))) else
  (bif Nat.blt pc 47 then (bif Nat.blt pc 36 then (bif Nat.blt pc 32 then (bif Nat.blt pc 29 then (bif Nat.beq pc 28 then some (.aload_n 0, 1, 0, 0, 0, mj_u) else none) else
      (bif Nat.beq pc 29 then some (.getfield 25, 3, 4, 4, 99, .int 0) else none)) else
     (bif Nat.blt pc 35 then (bif Nat.beq pc 32 then some (.if_icmp .ge 34, 3, 66, 0, 0, mj_u) else none) else
      (bif Nat.beq pc 35 then some (.iconst 0, 1, 0, 0, 0, .int 0) else none))) else
    (bif Nat.blt pc 40 then (bif Nat.blt pc 38 then (bif Nat.beq pc 36 then some (.istore 4, 2, 4, 0, 0, mj_u) else none) else
      (bif Nat.beq pc 38 then some (.iload 4, 2, 4, 0, 0, mj_u) else none)) else
     (bif Nat.blt pc 41 then (bif Nat.beq pc 40 then some (.aload_n 0, 1, 0, 0, 0, mj_u) else none) else
      (bif Nat.blt pc 44 then (bif Nat.beq pc 41 then some (.getfield 21, 3, 4, 3, 95, .int 0) else none) else
       (bif Nat.beq pc 44 then some (.if_icmp .ge 16, 3, 60, 0, 0, mj_u) else none))))) else
   (bif Nat.blt pc 54 then (bif Nat.blt pc 50 then (bif Nat.blt pc 48 then (bif Nat.beq pc 47 then some (.aload_n 0, 1, 0, 0, 0, mj_u) else none) else
      (bif Nat.beq pc 48 then some (.iload 4, 2, 4, 0, 0, mj_u) else none)) else
     (bif Nat.blt pc 51 then (bif Nat.beq pc 50 then some (.iload_n 3, 1, 3, 0, 0, mj_u) else none) else
      (bif Nat.beq pc 51 then some (.invokevirtual 37, 3, 11, 0, 280, mj_u) else none))) else
    (bif Nat.blt pc 60 then (bif Nat.blt pc 57 then (bif Nat.beq pc 54 then some (.iinc 4 1, 3, 4, 0, 0, .int 1) else none) else
      (bif Nat.beq pc 57 then some (.goto (-19), 3, 38, 0, 0, mj_u) else none)) else
     (bif Nat.blt pc 63 then (bif Nat.beq pc 60 then some (.iinc 3 1, 3, 3, 0, 0, .int 1) else none) else
      (bif Nat.blt pc 66 then (bif Nat.beq pc 63 then some (.goto (-36), 3, 27, 0, 0, mj_u) else none) else
       (bif Nat.beq pc 66 then some (.return_, 1, 0, 0, 0, mj_u) else none))))))
def m_Land_layOut : mj_M := (9, prog_6_method_2_code, 5, (Option.none : Option Jvm.ClassFile.FieldType), 4, 2, 276, 274, 275, 46, 67, k_Land_layOut)
/-- java/util/Arrays.fill([II)V static -/
def k_Arr_fill : Nat → Option mj_I := fun pc =>
  bif Nat.blt pc 7 then (bif Nat.blt pc 3 then (bif Nat.blt pc 1 then (bif Nat.beq pc 0 then some (.iconst 0, 1, 0, 0, 0, .int 0) else none) else
    (bif Nat.blt pc 2 then (bif Nat.beq pc 1 then some (.istore_n 2, 1, 2, 0, 0, mj_u) else none) else
     (bif Nat.beq pc 2 then some (.aload_n 0, 1, 0, 0, 0, mj_u) else none))) else
   (bif Nat.blt pc 5 then (bif Nat.blt pc 4 then (bif Nat.beq pc 3 then some (.arraylength, 1, 0, 0, 0, mj_u) else none) else
     (bif Nat.beq pc 4 then some (.istore_n 3, 1, 3, 0, 0, mj_u) else none)) else
    (bif Nat.blt pc 6 then (bif Nat.beq pc 5 then some (.iload_n 2, 1, 2, 0, 0, mj_u) else none) else
     (bif Nat.beq pc 6 then some (.iload_n 3, 1, 3, 0, 0, mj_u) else none)))) else
  (bif Nat.blt pc 13 then (bif Nat.blt pc 11 then (bif Nat.blt pc 10 then (bif Nat.beq pc 7 then some (.if_icmp .ge 13, 3, 20, 0, 0, mj_u) else none) else
     (bif Nat.beq pc 10 then some (.aload_n 0, 1, 0, 0, 0, mj_u) else none)) else
    (bif Nat.blt pc 12 then (bif Nat.beq pc 11 then some (.iload_n 2, 1, 2, 0, 0, mj_u) else none) else
     (bif Nat.beq pc 12 then some (.iload_n 1, 1, 1, 0, 0, mj_u) else none))) else
   (bif Nat.blt pc 17 then (bif Nat.blt pc 14 then (bif Nat.beq pc 13 then some (.iastore, 1, 0, 0, 0, mj_u) else none) else
     (bif Nat.beq pc 14 then some (.iinc 2 1, 3, 2, 0, 0, .int 1) else none)) else
    (bif Nat.blt pc 20 then (bif Nat.beq pc 17 then some (.goto (-12), 3, 5, 0, 0, mj_u) else none) else
     (bif Nat.beq pc 20 then some (.return_, 1, 0, 0, 0, mj_u) else none))))
def m_Arr_fill : mj_M := (10, prog_33_method_103_code, 4, (Option.none : Option Jvm.ClassFile.FieldType), 13, 2, 279, 278, 0, 54, 21, k_Arr_fill)
/-- WatershedMap$Land.findNeighbours(II)V -/
def k_Land_findNeighbours : Nat → Option mj_I := fun pc =>
  bif Nat.blt pc 32 then (bif Nat.blt pc 15 then (bif Nat.blt pc 8 then (bif Nat.blt pc 2 then (bif Nat.blt pc 1 then (bif Nat.beq pc 0 then some (.iconst 0, 1, 0, 0, 0, .int 0) else none) else
      (bif Nat.beq pc 1 then some (.istore_n 3, 1, 3, 0, 0, mj_u) else none)) else
     (bif Nat.blt pc 3 then (bif Nat.beq pc 2 then some (.iload_n 3, 1, 3, 0, 0, mj_u) else none) else
      (bif Nat.blt pc 5 then (bif Nat.beq pc 3 then some (.bipush 8, 2, 0, 0, 0, .int 8) else none) else
       (bif Nat.beq pc 5 then some (.if_icmp .ge 66, 3, 71, 0, 0, mj_u) else none)))) else
    (bif Nat.blt pc 12 then (bif Nat.blt pc 9 then (bif Nat.beq pc 8 then some (.iload_n 1, 1, 1, 0, 0, mj_u) else none) else
      (bif Nat.beq pc 9 then some (.getstatic 41, 3, 0, 1, 284, mj_u) else none)) else
     (bif Nat.blt pc 13 then (bif Nat.beq pc 12 then some (.iload_n 3, 1, 3, 0, 0, mj_u) else none) else
      (bif Nat.blt pc 14 then (bif Nat.beq pc 13 then some (.iaload, 1, 0, 0, 0, mj_u) else none) else
       (bif Nat.beq pc 14 then some (.iadd, 1, 0, 0, 0, mj_u) else none))))) else
   (bif Nat.blt pc 23 then (bif Nat.blt pc 18 then (bif Nat.blt pc 17 then (bif Nat.beq pc 15 then some (.istore 4, 2, 4, 0, 0, mj_u) else none) else
      (bif Nat.beq pc 17 then some (.iload_n 2, 1, 2, 0, 0, mj_u) else none)) else
     (bif Nat.blt pc 21 then (bif Nat.beq pc 18 then some (.getstatic 44, 3, 1, 1, 286, mj_u) else none) else
      (bif Nat.blt pc 22 then (bif Nat.beq pc 21 then some (.iload_n 3, 1, 3, 0, 0, mj_u) else none) else
       (bif Nat.beq pc 22 then some (.iaload, 1, 0, 0, 0, mj_u) else none)))) else
    (bif Nat.blt pc 27 then (bif Nat.blt pc 24 then (bif Nat.beq pc 23 then some (.iadd, 1, 0, 0, 0, mj_u) else none) else
      (bif Nat.blt pc 26 then (bif Nat.beq pc 24 then some (.istore 5, 2, 5, 0, 0, mj_u) else none) else
       (bif Nat.beq pc 26 then some (.aload_n 0, 1, 0, 0, 0, mj_u) else none))) else
     (bif Nat.blt pc 30 then (bif Nat.beq pc 27 then some (.getfield 18, 3, 4, 2, 94, .null) else none) else
      (bif Nat.blt pc 31 then (bif Nat.beq pc 30 then some (.aload_n 0, 1, 0, 0, 0, mj_u) else none) else
       (bif Nat.beq pc 31 then some (.iload_n 1, 1, 1, 0, 0, mj_u) else none)))))) else
  (bif Nat.blt pc 49 then (bif Nat.blt pc 40 then (bif Nat.blt pc 36 then (bif Nat.blt pc 33 then (bif Nat.beq pc 32 then some (.iload_n 2, 1, 2, 0, 0, mj_u) else none) else
      (bif Nat.beq pc 33 then some (.invokevirtual 47, 3, 12, 0, 288, mj_u) else none)) else
     (bif Nat.blt pc 38 then (bif Nat.beq pc 36 then some (.bipush 8, 2, 0, 0, 0, .int 8) else none) else
      (bif Nat.blt pc 39 then (bif Nat.beq pc 38 then some (.imul, 1, 0, 0, 0, mj_u) else none) else
       (bif Nat.beq pc 39 then some (.iload_n 3, 1, 3, 0, 0, mj_u) else none)))) else
    (bif Nat.blt pc 42 then (bif Nat.blt pc 41 then (bif Nat.beq pc 40 then some (.iadd, 1, 0, 0, 0, mj_u) else none) else
      (bif Nat.beq pc 41 then some (.aload_n 0, 1, 0, 0, 0, mj_u) else none)) else
     (bif Nat.blt pc 44 then (bif Nat.beq pc 42 then some (.iload 4, 2, 4, 0, 0, mj_u) else none) else
      (bif Nat.blt pc 46 then (bif Nat.beq pc 44 then some (.iload 5, 2, 5, 0, 0, mj_u) else none) else
       (bif Nat.beq pc 46 then some (.invokevirtual 51, 3, 13, 0, 292, mj_u) else none))))) else
   (bif Nat.blt pc 60 then (bif Nat.blt pc 53 then (bif Nat.blt pc 52 then (bif Nat.beq pc 49 then some (.ifCond .eq 14, 3, 63, 0, 0, mj_u) else none) else
      (bif Nat.beq pc 52 then some (.aload_n 0, 1, 0, 0, 0, mj_u) else none)) else
     (bif Nat.blt pc 55 then (bif Nat.beq pc 53 then some (.iload 4, 2, 4, 0, 0, mj_u) else none) else
      (bif Nat.blt pc 57 then (bif Nat.beq pc 55 then some (.iload 5, 2, 5, 0, 0, mj_u) else none) else
       (bif Nat.beq pc 57 then some (.invokevirtual 47, 3, 12, 0, 288, mj_u) else none)))) else
    (bif Nat.blt pc 65 then (bif Nat.blt pc 63 then (bif Nat.beq pc 60 then some (.goto 4, 3, 64, 0, 0, mj_u) else none) else
      (bif Nat.blt pc 64 then (bif Nat.beq pc 63 then some (.iconst (-1), 1, 0, 0, 0, .int (-1)) else none) else
       (bif Nat.beq pc 64 then some (.iastore, 1, 0, 0, 0, mj_u) else none))) else
     (bif Nat.blt pc 68 then (bif Nat.beq pc 65 then some (.iinc 3 1, 3, 3, 0, 0, .int 1) else none) else
      (bif Nat.blt pc 71 then (bif Nat.beq pc 68 then some (.goto (-66), 3, 2, 0, 0, mj_u) else none) else
       (bif Nat.beq pc 71 then some (.return_, 1, 0, 0, 0, mj_u) else none))))))
def m_Land_findNeighbours : mj_M := (11, prog_6_method_3_code, 6, (Option.none : Option Jvm.ClassFile.FieldType), 4, 2, 283, 282, 0, 46, 72, k_Land_findNeighbours)
/-- WatershedMap$Land.numberOf(II)I -/
def k_Land_numberOf : Nat → Option mj_I := fun pc =>
  bif Nat.blt pc 5 then (bif Nat.blt pc 1 then (bif Nat.beq pc 0 then some (.iload_n 2, 1, 2, 0, 0, mj_u) else none) else
   (bif Nat.blt pc 2 then (bif Nat.beq pc 1 then some (.aload_n 0, 1, 0, 0, 0, mj_u) else none) else
    (bif Nat.beq pc 2 then some (.getfield 21, 3, 4, 3, 95, .int 0) else none))) else
  (bif Nat.blt pc 7 then (bif Nat.blt pc 6 then (bif Nat.beq pc 5 then some (.imul, 1, 0, 0, 0, mj_u) else none) else
    (bif Nat.beq pc 6 then some (.iload_n 1, 1, 1, 0, 0, mj_u) else none)) else
   (bif Nat.blt pc 8 then (bif Nat.beq pc 7 then some (.iadd, 1, 0, 0, 0, mj_u) else none) else
    (bif Nat.beq pc 8 then some (.ireturn, 1, 0, 0, 0, mj_u) else none)))
def m_Land_numberOf : mj_M := (12, prog_6_method_5_code, 3, (Option.some Jvm.ClassFile.FieldType.int), 4, 2, 291, 289, 290, 46, 9, k_Land_numberOf)
/-- WatershedMap$Land.has(II)Z -/
def k_Land_has : Nat → Option mj_I := fun pc =>
  bif Nat.blt pc 16 then (bif Nat.blt pc 6 then (bif Nat.blt pc 4 then (bif Nat.blt pc 1 then (bif Nat.beq pc 0 then some (.iload_n 1, 1, 1, 0, 0, mj_u) else none) else
     (bif Nat.beq pc 1 then some (.ifCond .lt 27, 3, 28, 0, 0, mj_u) else none)) else
    (bif Nat.blt pc 5 then (bif Nat.beq pc 4 then some (.iload_n 1, 1, 1, 0, 0, mj_u) else none) else
     (bif Nat.beq pc 5 then some (.aload_n 0, 1, 0, 0, 0, mj_u) else none))) else
   (bif Nat.blt pc 12 then (bif Nat.blt pc 9 then (bif Nat.beq pc 6 then some (.getfield 21, 3, 4, 3, 95, .int 0) else none) else
     (bif Nat.beq pc 9 then some (.if_icmp .ge 19, 3, 28, 0, 0, mj_u) else none)) else
    (bif Nat.blt pc 13 then (bif Nat.beq pc 12 then some (.iload_n 2, 1, 2, 0, 0, mj_u) else none) else
     (bif Nat.beq pc 13 then some (.ifCond .lt 15, 3, 28, 0, 0, mj_u) else none)))) else
  (bif Nat.blt pc 24 then (bif Nat.blt pc 18 then (bif Nat.blt pc 17 then (bif Nat.beq pc 16 then some (.iload_n 2, 1, 2, 0, 0, mj_u) else none) else
     (bif Nat.beq pc 17 then some (.aload_n 0, 1, 0, 0, 0, mj_u) else none)) else
    (bif Nat.blt pc 21 then (bif Nat.beq pc 18 then some (.getfield 25, 3, 4, 4, 99, .int 0) else none) else
     (bif Nat.beq pc 21 then some (.if_icmp .ge 7, 3, 28, 0, 0, mj_u) else none))) else
   (bif Nat.blt pc 28 then (bif Nat.blt pc 25 then (bif Nat.beq pc 24 then some (.iconst 1, 1, 0, 0, 0, .int 1) else none) else
     (bif Nat.beq pc 25 then some (.goto 4, 3, 29, 0, 0, mj_u) else none)) else
    (bif Nat.blt pc 29 then (bif Nat.beq pc 28 then some (.iconst 0, 1, 0, 0, 0, .int 0) else none) else
     (bif Nat.beq pc 29 then some (.ireturn, 1, 0, 0, 0, mj_u) else none))))
def m_Land_has : mj_M := (13, prog_6_method_4_code, 3, (Option.some Jvm.ClassFile.FieldType.boolean), 4, 2, 295, 293, 294, 46, 30, k_Land_has)
/-- WatershedMap.smooth()I -/
def k_W_smooth : Nat → Option mj_I := fun pc =>
  bif Nat.blt pc 4 then (bif Nat.blt pc 1 then (bif Nat.beq pc 0 then some (.aload_n 0, 1, 0, 0, 0, mj_u) else none) else
   (bif Nat.beq pc 1 then some (.getfield 10, 3, 8, 0, 296, .null) else none)) else
  (bif Nat.blt pc 7 then (bif Nat.beq pc 4 then some (.invokevirtual 97, 3, 15, 0, 325, mj_u) else none) else
   (bif Nat.beq pc 7 then some (.ireturn, 1, 0, 0, 0, mj_u) else none))
def m_W_smooth : mj_M := (14, prog_1_method_7_code, 1, (Option.some Jvm.ClassFile.FieldType.int), 8, 0, 324, 322, 323, 45, 8, k_W_smooth)
/-- WatershedMap$Land.soften()I -/
def k_Land_soften : Nat → Option mj_I := fun pc =>
  bif Nat.blt pc 61 then (bif Nat.blt pc 27 then (bif Nat.blt pc 15 then (bif Nat.blt pc 4 then (bif Nat.blt pc 2 then (bif Nat.blt pc 1 then (bif Nat.beq pc 0 then some (.iconst 0, 1, 0, 0, 0, .int 0) else none) else
       (bif Nat.beq pc 1 then some (.istore_n 1, 1, 1, 0, 0, mj_u) else none)) else
      (bif Nat.blt pc 3 then (bif Nat.beq pc 2 then some (.iload_n 1, 1, 1, 0, 0, mj_u) else none) else
       (bif Nat.beq pc 3 then some (.aload_n 0, 1, 0, 0, 0, mj_u) else none))) else
     (bif Nat.blt pc 10 then (bif Nat.blt pc 7 then (bif Nat.beq pc 4 then some (.getfield 28, 3, 4, 5, 103, .int 0) else none) else
       (bif Nat.beq pc 7 then some (.if_icmp .ge 69, 3, 76, 0, 0, mj_u) else none)) else
      (bif Nat.blt pc 11 then (bif Nat.beq pc 10 then some (.iconst 4, 1, 0, 0, 0, .int 4) else none) else
       (bif Nat.blt pc 12 then (bif Nat.beq pc 11 then some (.aload_n 0, 1, 0, 0, 0, mj_u) else none) else
        (bif Nat.beq pc 12 then some (.getfield 9, 3, 4, 0, 87, .null) else none))))) else
    (bif Nat.blt pc 19 then (bif Nat.blt pc 17 then (bif Nat.blt pc 16 then (bif Nat.beq pc 15 then some (.iload_n 1, 1, 1, 0, 0, mj_u) else none) else
       (bif Nat.beq pc 16 then some (.iaload, 1, 0, 0, 0, mj_u) else none)) else
      (bif Nat.blt pc 18 then (bif Nat.beq pc 17 then some (.imul, 1, 0, 0, 0, mj_u) else none) else
       (bif Nat.beq pc 18 then some (.istore_n 2, 1, 2, 0, 0, mj_u) else none))) else
     (bif Nat.blt pc 21 then (bif Nat.blt pc 20 then (bif Nat.beq pc 19 then some (.iconst 0, 1, 0, 0, 0, .int 0) else none) else
       (bif Nat.beq pc 20 then some (.istore_n 3, 1, 3, 0, 0, mj_u) else none)) else
      (bif Nat.blt pc 22 then (bif Nat.beq pc 21 then some (.iload_n 3, 1, 3, 0, 0, mj_u) else none) else
       (bif Nat.blt pc 24 then (bif Nat.beq pc 22 then some (.bipush 8, 2, 0, 0, 0, .int 8) else none) else
        (bif Nat.beq pc 24 then some (.if_icmp .ge 36, 3, 60, 0, 0, mj_u) else none)))))) else
   (bif Nat.blt pc 42 then (bif Nat.blt pc 33 then (bif Nat.blt pc 29 then (bif Nat.blt pc 28 then (bif Nat.beq pc 27 then some (.aload_n 0, 1, 0, 0, 0, mj_u) else none) else
       (bif Nat.beq pc 28 then some (.iload_n 1, 1, 1, 0, 0, mj_u) else none)) else
      (bif Nat.blt pc 30 then (bif Nat.beq pc 29 then some (.iload_n 3, 1, 3, 0, 0, mj_u) else none) else
       (bif Nat.beq pc 30 then some (.invokevirtual 55, 3, 16, 0, 329, mj_u) else none))) else
     (bif Nat.blt pc 36 then (bif Nat.blt pc 35 then (bif Nat.beq pc 33 then some (.istore 4, 2, 4, 0, 0, mj_u) else none) else
       (bif Nat.beq pc 35 then some (.iload_n 2, 1, 2, 0, 0, mj_u) else none)) else
      (bif Nat.blt pc 37 then (bif Nat.beq pc 36 then some (.aload_n 0, 1, 0, 0, 0, mj_u) else none) else
       (bif Nat.blt pc 40 then (bif Nat.beq pc 37 then some (.getfield 9, 3, 4, 0, 87, .null) else none) else
        (bif Nat.beq pc 40 then some (.iload 4, 2, 4, 0, 0, mj_u) else none))))) else
    (bif Nat.blt pc 52 then (bif Nat.blt pc 46 then (bif Nat.blt pc 45 then (bif Nat.beq pc 42 then some (.ifCond .ge 7, 3, 49, 0, 0, mj_u) else none) else
       (bif Nat.beq pc 45 then some (.iload_n 1, 1, 1, 0, 0, mj_u) else none)) else
      (bif Nat.blt pc 49 then (bif Nat.beq pc 46 then some (.goto 5, 3, 51, 0, 0, mj_u) else none) else
       (bif Nat.blt pc 51 then (bif Nat.beq pc 49 then some (.iload 4, 2, 4, 0, 0, mj_u) else none) else
        (bif Nat.beq pc 51 then some (.iaload, 1, 0, 0, 0, mj_u) else none)))) else
     (bif Nat.blt pc 54 then (bif Nat.blt pc 53 then (bif Nat.beq pc 52 then some (.iadd, 1, 0, 0, 0, mj_u) else none) else
       (bif Nat.beq pc 53 then some (.istore_n 2, 1, 2, 0, 0, mj_u) else none)) else
      (bif Nat.blt pc 57 then (bif Nat.beq pc 54 then some (.iinc 3 2, 3, 3, 0, 0, .int 2) else none) else
       (bif Nat.blt pc 60 then (bif Nat.beq pc 57 then some (.goto (-36), 3, 21, 0, 0, mj_u) else none) else
        (bif Nat.beq pc 60 then some (.aload_n 0, 1, 0, 0, 0, mj_u) else none))))))) else
  (bif Nat.blt pc 91 then (bif Nat.blt pc 77 then (bif Nat.blt pc 68 then (bif Nat.blt pc 65 then (bif Nat.blt pc 64 then (bif Nat.beq pc 61 then some (.getfield 15, 3, 4, 1, 93, .null) else none) else
       (bif Nat.beq pc 64 then some (.iload_n 1, 1, 1, 0, 0, mj_u) else none)) else
      (bif Nat.blt pc 66 then (bif Nat.beq pc 65 then some (.iload_n 2, 1, 2, 0, 0, mj_u) else none) else
       (bif Nat.beq pc 66 then some (.bipush 8, 2, 0, 0, 0, .int 8) else none))) else
     (bif Nat.blt pc 70 then (bif Nat.blt pc 69 then (bif Nat.beq pc 68 then some (.idiv, 1, 0, 0, 0, mj_u) else none) else
       (bif Nat.beq pc 69 then some (.iastore, 1, 0, 0, 0, mj_u) else none)) else
      (bif Nat.blt pc 73 then (bif Nat.beq pc 70 then some (.iinc 1 1, 3, 1, 0, 0, .int 1) else none) else
       (bif Nat.blt pc 76 then (bif Nat.beq pc 73 then some (.goto (-71), 3, 2, 0, 0, mj_u) else none) else
        (bif Nat.beq pc 76 then some (.iconst 0, 1, 0, 0, 0, .int 0) else none))))) else
    (bif Nat.blt pc 82 then (bif Nat.blt pc 79 then (bif Nat.blt pc 78 then (bif Nat.beq pc 77 then some (.istore_n 1, 1, 1, 0, 0, mj_u) else none) else
       (bif Nat.beq pc 78 then some (.iconst 0, 1, 0, 0, 0, .int 0) else none)) else
      (bif Nat.blt pc 80 then (bif Nat.beq pc 79 then some (.istore_n 2, 1, 2, 0, 0, mj_u) else none) else
       (bif Nat.blt pc 81 then (bif Nat.beq pc 80 then some (.iload_n 2, 1, 2, 0, 0, mj_u) else none) else
        (bif Nat.beq pc 81 then some (.aload_n 0, 1, 0, 0, 0, mj_u) else none)))) else
     (bif Nat.blt pc 88 then (bif Nat.blt pc 85 then (bif Nat.beq pc 82 then some (.getfield 28, 3, 4, 5, 103, .int 0) else none) else
       (bif Nat.beq pc 85 then some (.if_icmp .ge 37, 3, 122, 0, 0, mj_u) else none)) else
      (bif Nat.blt pc 89 then (bif Nat.beq pc 88 then some (.iload_n 1, 1, 1, 0, 0, mj_u) else none) else
       (bif Nat.blt pc 90 then (bif Nat.beq pc 89 then some (.aload_n 0, 1, 0, 0, 0, mj_u) else none) else
        (bif Nat.beq pc 90 then some (.iload_n 2, 1, 2, 0, 0, mj_u) else none)))))) else
   (bif Nat.blt pc 106 then (bif Nat.blt pc 97 then (bif Nat.blt pc 95 then (bif Nat.blt pc 92 then (bif Nat.beq pc 91 then some (.aload_n 0, 1, 0, 0, 0, mj_u) else none) else
       (bif Nat.beq pc 92 then some (.getfield 15, 3, 4, 1, 93, .null) else none)) else
      (bif Nat.blt pc 96 then (bif Nat.beq pc 95 then some (.iload_n 2, 1, 2, 0, 0, mj_u) else none) else
       (bif Nat.beq pc 96 then some (.iaload, 1, 0, 0, 0, mj_u) else none))) else
     (bif Nat.blt pc 101 then (bif Nat.blt pc 100 then (bif Nat.beq pc 97 then some (.invokevirtual 80, 3, 17, 0, 333, mj_u) else none) else
       (bif Nat.beq pc 100 then some (.aload_n 0, 1, 0, 0, 0, mj_u) else none)) else
      (bif Nat.blt pc 104 then (bif Nat.beq pc 101 then some (.getfield 15, 3, 4, 1, 93, .null) else none) else
       (bif Nat.blt pc 105 then (bif Nat.beq pc 104 then some (.iload_n 2, 1, 2, 0, 0, mj_u) else none) else
        (bif Nat.beq pc 105 then some (.iaload, 1, 0, 0, 0, mj_u) else none))))) else
    (bif Nat.blt pc 115 then (bif Nat.blt pc 110 then (bif Nat.blt pc 109 then (bif Nat.beq pc 106 then some (.if_icmp .eq 7, 3, 113, 0, 0, mj_u) else none) else
       (bif Nat.beq pc 109 then some (.iconst 1, 1, 0, 0, 0, .int 1) else none)) else
      (bif Nat.blt pc 113 then (bif Nat.beq pc 110 then some (.goto 4, 3, 114, 0, 0, mj_u) else none) else
       (bif Nat.blt pc 114 then (bif Nat.beq pc 113 then some (.iconst 0, 1, 0, 0, 0, .int 0) else none) else
        (bif Nat.beq pc 114 then some (.iadd, 1, 0, 0, 0, mj_u) else none)))) else
     (bif Nat.blt pc 119 then (bif Nat.blt pc 116 then (bif Nat.beq pc 115 then some (.istore_n 1, 1, 1, 0, 0, mj_u) else none) else
       (bif Nat.beq pc 116 then some (.iinc 2 1, 3, 2, 0, 0, .int 1) else none)) else
      (bif Nat.blt pc 122 then (bif Nat.beq pc 119 then some (.goto (-39), 3, 80, 0, 0, mj_u) else none) else
       (bif Nat.blt pc 123 then (bif Nat.beq pc 122 then some (.iload_n 1, 1, 1, 0, 0, mj_u) else none) else
        (bif Nat.beq pc 123 then some (.ireturn, 1, 0, 0, 0, mj_u) else none)))))))
def m_Land_soften : mj_M := (15, prog_6_method_20_code, 5, (Option.some Jvm.ClassFile.FieldType.int), 4, 0, 328, 326, 327, 46, 124, k_Land_soften)
/-- WatershedMap$Land.neighbour(II)I -/
def k_Land_neighbour : Nat → Option mj_I := fun pc =>
  bif Nat.blt pc 7 then (bif Nat.blt pc 4 then (bif Nat.blt pc 1 then (bif Nat.beq pc 0 then some (.aload_n 0, 1, 0, 0, 0, mj_u) else none) else
    (bif Nat.beq pc 1 then some (.getfield 18, 3, 4, 2, 94, .null) else none)) else
   (bif Nat.blt pc 5 then (bif Nat.beq pc 4 then some (.iload_n 1, 1, 1, 0, 0, mj_u) else none) else
    (bif Nat.beq pc 5 then some (.bipush 8, 2, 0, 0, 0, .int 8) else none))) else
  (bif Nat.blt pc 9 then (bif Nat.blt pc 8 then (bif Nat.beq pc 7 then some (.imul, 1, 0, 0, 0, mj_u) else none) else
    (bif Nat.beq pc 8 then some (.iload_n 2, 1, 2, 0, 0, mj_u) else none)) else
   (bif Nat.blt pc 10 then (bif Nat.beq pc 9 then some (.iadd, 1, 0, 0, 0, mj_u) else none) else
    (bif Nat.blt pc 11 then (bif Nat.beq pc 10 then some (.iaload, 1, 0, 0, 0, mj_u) else none) else
     (bif Nat.beq pc 11 then some (.ireturn, 1, 0, 0, 0, mj_u) else none))))
def m_Land_neighbour : mj_M := (16, prog_6_method_6_code, 3, (Option.some Jvm.ClassFile.FieldType.int), 4, 2, 332, 330, 331, 46, 12, k_Land_neighbour)
/-- WatershedMap$Land.exchange(II)I -/
def k_Land_exchange : Nat → Option mj_I := fun pc =>
  bif Nat.blt pc 16 then (bif Nat.blt pc 7 then (bif Nat.blt pc 4 then (bif Nat.blt pc 1 then (bif Nat.beq pc 0 then some (.aload_n 0, 1, 0, 0, 0, mj_u) else none) else
     (bif Nat.beq pc 1 then some (.getfield 9, 3, 4, 0, 87, .null) else none)) else
    (bif Nat.blt pc 5 then (bif Nat.beq pc 4 then some (.iload_n 1, 1, 1, 0, 0, mj_u) else none) else
     (bif Nat.blt pc 6 then (bif Nat.beq pc 5 then some (.iaload, 1, 0, 0, 0, mj_u) else none) else
      (bif Nat.beq pc 6 then some (.istore_n 3, 1, 3, 0, 0, mj_u) else none)))) else
   (bif Nat.blt pc 11 then (bif Nat.blt pc 8 then (bif Nat.beq pc 7 then some (.aload_n 0, 1, 0, 0, 0, mj_u) else none) else
     (bif Nat.beq pc 8 then some (.getfield 9, 3, 4, 0, 87, .null) else none)) else
    (bif Nat.blt pc 12 then (bif Nat.beq pc 11 then some (.iload_n 1, 1, 1, 0, 0, mj_u) else none) else
     (bif Nat.blt pc 13 then (bif Nat.beq pc 12 then some (.iload_n 2, 1, 2, 0, 0, mj_u) else none) else
      (bif Nat.beq pc 13 then some (.ifCond .ge 7, 3, 20, 0, 0, mj_u) else none))))) else
  (bif Nat.blt pc 27 then (bif Nat.blt pc 20 then (bif Nat.blt pc 17 then (bif Nat.beq pc 16 then some (.iconst 0, 1, 0, 0, 0, .int 0) else none) else
     (bif Nat.beq pc 17 then some (.goto 17, 3, 34, 0, 0, mj_u) else none)) else
    (bif Nat.blt pc 21 then (bif Nat.beq pc 20 then some (.iload_n 2, 1, 2, 0, 0, mj_u) else none) else
     (bif Nat.blt pc 24 then (bif Nat.beq pc 21 then some (.sipush 999, 3, 0, 0, 0, .int 999) else none) else
      (bif Nat.beq pc 24 then some (.if_icmp .le 9, 3, 33, 0, 0, mj_u) else none)))) else
   (bif Nat.blt pc 34 then (bif Nat.blt pc 30 then (bif Nat.beq pc 27 then some (.sipush 999, 3, 0, 0, 0, .int 999) else none) else
     (bif Nat.blt pc 33 then (bif Nat.beq pc 30 then some (.goto 4, 3, 34, 0, 0, mj_u) else none) else
      (bif Nat.beq pc 33 then some (.iload_n 2, 1, 2, 0, 0, mj_u) else none))) else
    (bif Nat.blt pc 35 then (bif Nat.beq pc 34 then some (.iastore, 1, 0, 0, 0, mj_u) else none) else
     (bif Nat.blt pc 36 then (bif Nat.beq pc 35 then some (.iload_n 3, 1, 3, 0, 0, mj_u) else none) else
      (bif Nat.beq pc 36 then some (.ireturn, 1, 0, 0, 0, mj_u) else none)))))
def m_Land_exchange : mj_M := (17, prog_6_method_9_code, 4, (Option.some Jvm.ClassFile.FieldType.int), 4, 2, 336, 334, 335, 46, 37, k_Land_exchange)
/-- WatershedMap.fill()I -/
def k_W_fill : Nat → Option mj_I := fun pc =>
  bif Nat.blt pc 11 then (bif Nat.blt pc 4 then (bif Nat.blt pc 1 then (bif Nat.beq pc 0 then some (.aload_n 0, 1, 0, 0, 0, mj_u) else none) else
    (bif Nat.beq pc 1 then some (.getfield 28, 3, 8, 2, 298, .null) else none)) else
   (bif Nat.blt pc 7 then (bif Nat.beq pc 4 then some (.invokevirtual 108, 3, 19, 0, 341, mj_u) else none) else
    (bif Nat.blt pc 8 then (bif Nat.beq pc 7 then some (.aload_n 0, 1, 0, 0, 0, mj_u) else none) else
     (bif Nat.beq pc 8 then some (.getfield 10, 3, 8, 0, 296, .null) else none)))) else
  (bif Nat.blt pc 15 then (bif Nat.blt pc 12 then (bif Nat.beq pc 11 then some (.aload_n 0, 1, 0, 0, 0, mj_u) else none) else
    (bif Nat.beq pc 12 then some (.getfield 28, 3, 8, 2, 298, .null) else none)) else
   (bif Nat.blt pc 18 then (bif Nat.beq pc 15 then some (.getfield 111, 3, 3, 1, 201, .null) else none) else
    (bif Nat.blt pc 21 then (bif Nat.beq pc 18 then some (.invokevirtual 114, 3, 33, 0, 397, mj_u) else none) else
     (bif Nat.beq pc 21 then some (.ireturn, 1, 0, 0, 0, mj_u) else none))))
def m_W_fill : mj_M := (18, prog_1_method_9_code, 1, (Option.some Jvm.ClassFile.FieldType.int), 8, 0, 340, 338, 339, 45, 22, k_W_fill)
/-- WatershedMap$Hollows.find()V -/
def k_Hollows_find : Nat → Option mj_I := fun pc =>
  bif Nat.blt pc 42 then (bif Nat.blt pc 19 then (bif Nat.blt pc 11 then (bif Nat.blt pc 4 then (bif Nat.blt pc 1 then (bif Nat.beq pc 0 then some (.aload_n 0, 1, 0, 0, 0, mj_u) else none) else
      (bif Nat.beq pc 1 then some (.invokevirtual 33, 3, 20, 0, 345, mj_u) else none)) else
     (bif Nat.blt pc 5 then (bif Nat.beq pc 4 then some (.aload_n 0, 1, 0, 0, 0, mj_u) else none) else
      (bif Nat.blt pc 8 then (bif Nat.beq pc 5 then some (.getfield 25, 3, 3, 3, 203, .null) else none) else
       (bif Nat.beq pc 8 then some (.invokevirtual 36, 3, 27, 0, 373, mj_u) else none)))) else
    (bif Nat.blt pc 16 then (bif Nat.blt pc 12 then (bif Nat.beq pc 11 then some (.aload_n 0, 1, 0, 0, 0, mj_u) else none) else
      (bif Nat.blt pc 13 then (bif Nat.beq pc 12 then some (.iconst 0, 1, 0, 0, 0, .int 0) else none) else
       (bif Nat.beq pc 13 then some (.putfield 39, 3, 3, 4, 204, .int 0) else none))) else
     (bif Nat.blt pc 17 then (bif Nat.beq pc 16 then some (.iconst 0, 1, 0, 0, 0, .int 0) else none) else
      (bif Nat.blt pc 18 then (bif Nat.beq pc 17 then some (.istore_n 1, 1, 1, 0, 0, mj_u) else none) else
       (bif Nat.beq pc 18 then some (.iload_n 1, 1, 1, 0, 0, mj_u) else none))))) else
   (bif Nat.blt pc 30 then (bif Nat.blt pc 23 then (bif Nat.blt pc 20 then (bif Nat.beq pc 19 then some (.aload_n 0, 1, 0, 0, 0, mj_u) else none) else
      (bif Nat.beq pc 20 then some (.getfield 29, 3, 3, 0, 199, .null) else none)) else
     (bif Nat.blt pc 26 then (bif Nat.beq pc 23 then some (.getfield 43, 3, 4, 5, 104, .int 0) else none) else
      (bif Nat.blt pc 29 then (bif Nat.beq pc 26 then some (.if_icmp .ge 55, 3, 81, 0, 0, mj_u) else none) else
       (bif Nat.beq pc 29 then some (.aload_n 0, 1, 0, 0, 0, mj_u) else none)))) else
    (bif Nat.blt pc 37 then (bif Nat.blt pc 31 then (bif Nat.beq pc 30 then some (.iload_n 1, 1, 1, 0, 0, mj_u) else none) else
      (bif Nat.blt pc 34 then (bif Nat.beq pc 31 then some (.invokevirtual 48, 3, 28, 0, 377, mj_u) else none) else
       (bif Nat.beq pc 34 then some (.ifCond .eq 41, 3, 75, 0, 0, mj_u) else none))) else
     (bif Nat.blt pc 38 then (bif Nat.beq pc 37 then some (.aload_n 0, 1, 0, 0, 0, mj_u) else none) else
      (bif Nat.blt pc 39 then (bif Nat.beq pc 38 then some (.dup, 1, 0, 0, 0, mj_u) else none) else
       (bif Nat.beq pc 39 then some (.getfield 39, 3, 3, 4, 204, .int 0) else none)))))) else
  (bif Nat.blt pc 61 then (bif Nat.blt pc 49 then (bif Nat.blt pc 44 then (bif Nat.blt pc 43 then (bif Nat.beq pc 42 then some (.iconst 1, 1, 0, 0, 0, .int 1) else none) else
      (bif Nat.beq pc 43 then some (.iadd, 1, 0, 0, 0, mj_u) else none)) else
     (bif Nat.blt pc 47 then (bif Nat.beq pc 44 then some (.putfield 39, 3, 3, 4, 204, .int 0) else none) else
      (bif Nat.blt pc 48 then (bif Nat.beq pc 47 then some (.aload_n 0, 1, 0, 0, 0, mj_u) else none) else
       (bif Nat.beq pc 48 then some (.iload_n 1, 1, 1, 0, 0, mj_u) else none)))) else
    (bif Nat.blt pc 54 then (bif Nat.blt pc 50 then (bif Nat.beq pc 49 then some (.aload_n 0, 1, 0, 0, 0, mj_u) else none) else
      (bif Nat.blt pc 53 then (bif Nat.beq pc 50 then some (.getfield 29, 3, 3, 0, 199, .null) else none) else
       (bif Nat.beq pc 53 then some (.iload_n 1, 1, 1, 0, 0, mj_u) else none))) else
     (bif Nat.blt pc 55 then (bif Nat.beq pc 54 then some (.iconst 0, 1, 0, 0, 0, .int 0) else none) else
      (bif Nat.blt pc 58 then (bif Nat.beq pc 55 then some (.invokevirtual 52, 3, 16, 0, 369, mj_u) else none) else
       (bif Nat.beq pc 58 then some (.invokevirtual 56, 3, 30, 0, 385, mj_u) else none))))) else
   (bif Nat.blt pc 68 then (bif Nat.blt pc 63 then (bif Nat.blt pc 62 then (bif Nat.beq pc 61 then some (.aload_n 0, 1, 0, 0, 0, mj_u) else none) else
      (bif Nat.beq pc 62 then some (.iload_n 1, 1, 1, 0, 0, mj_u) else none)) else
     (bif Nat.blt pc 64 then (bif Nat.beq pc 63 then some (.aload_n 0, 1, 0, 0, 0, mj_u) else none) else
      (bif Nat.blt pc 67 then (bif Nat.beq pc 64 then some (.getfield 29, 3, 3, 0, 199, .null) else none) else
       (bif Nat.beq pc 67 then some (.iload_n 1, 1, 1, 0, 0, mj_u) else none)))) else
    (bif Nat.blt pc 75 then (bif Nat.blt pc 69 then (bif Nat.beq pc 68 then some (.iconst 2, 1, 0, 0, 0, .int 2) else none) else
      (bif Nat.blt pc 72 then (bif Nat.beq pc 69 then some (.invokevirtual 52, 3, 16, 0, 369, mj_u) else none) else
       (bif Nat.beq pc 72 then some (.invokevirtual 56, 3, 30, 0, 385, mj_u) else none))) else
     (bif Nat.blt pc 78 then (bif Nat.beq pc 75 then some (.iinc 1 1, 3, 1, 0, 0, .int 1) else none) else
      (bif Nat.blt pc 81 then (bif Nat.beq pc 78 then some (.goto (-60), 3, 18, 0, 0, mj_u) else none) else
       (bif Nat.beq pc 81 then some (.return_, 1, 0, 0, 0, mj_u) else none))))))
def m_Hollows_find : mj_M := (19, prog_5_method_2_code, 2, (Option.none : Option Jvm.ClassFile.FieldType), 3, 0, 344, 342, 343, 48, 82, k_Hollows_find)
/-- WatershedMap$Hollows.findLevels()V -/
def k_Hollows_findLevels : Nat → Option mj_I := fun pc =>
  bif Nat.blt pc 52 then (bif Nat.blt pc 26 then (bif Nat.blt pc 11 then (bif Nat.blt pc 7 then (bif Nat.blt pc 1 then (bif Nat.beq pc 0 then some (.aload_n 0, 1, 0, 0, 0, mj_u) else none) else
      (bif Nat.blt pc 4 then (bif Nat.beq pc 1 then some (.getfield 18, 3, 3, 2, 202, .null) else none) else
       (bif Nat.beq pc 4 then some (.invokevirtual 60, 3, 21, 0, 349, mj_u) else none))) else
     (bif Nat.blt pc 9 then (bif Nat.blt pc 8 then (bif Nat.beq pc 7 then some (.iconst 0, 1, 0, 0, 0, .int 0) else none) else
       (bif Nat.beq pc 8 then some (.istore_n 1, 1, 1, 0, 0, mj_u) else none)) else
      (bif Nat.blt pc 10 then (bif Nat.beq pc 9 then some (.iload_n 1, 1, 1, 0, 0, mj_u) else none) else
       (bif Nat.beq pc 10 then some (.aload_n 0, 1, 0, 0, 0, mj_u) else none)))) else
    (bif Nat.blt pc 20 then (bif Nat.blt pc 14 then (bif Nat.beq pc 11 then some (.getfield 29, 3, 3, 0, 199, .null) else none) else
      (bif Nat.blt pc 17 then (bif Nat.beq pc 14 then some (.getfield 43, 3, 4, 5, 104, .int 0) else none) else
       (bif Nat.beq pc 17 then some (.if_icmp .ge 50, 3, 67, 0, 0, mj_u) else none))) else
     (bif Nat.blt pc 24 then (bif Nat.blt pc 21 then (bif Nat.beq pc 20 then some (.aload_n 0, 1, 0, 0, 0, mj_u) else none) else
       (bif Nat.beq pc 21 then some (.getfield 9, 3, 3, 1, 200, .null) else none)) else
      (bif Nat.blt pc 25 then (bif Nat.beq pc 24 then some (.iload_n 1, 1, 1, 0, 0, mj_u) else none) else
       (bif Nat.beq pc 25 then some (.iconst (-1), 1, 0, 0, 0, .int (-1)) else none))))) else
   (bif Nat.blt pc 39 then (bif Nat.blt pc 31 then (bif Nat.blt pc 27 then (bif Nat.beq pc 26 then some (.iastore, 1, 0, 0, 0, mj_u) else none) else
      (bif Nat.blt pc 28 then (bif Nat.beq pc 27 then some (.aload_n 0, 1, 0, 0, 0, mj_u) else none) else
       (bif Nat.beq pc 28 then some (.getfield 29, 3, 3, 0, 199, .null) else none))) else
     (bif Nat.blt pc 35 then (bif Nat.blt pc 32 then (bif Nat.beq pc 31 then some (.iload_n 1, 1, 1, 0, 0, mj_u) else none) else
       (bif Nat.beq pc 32 then some (.invokevirtual 63, 3, 22, 0, 353, mj_u) else none)) else
      (bif Nat.blt pc 38 then (bif Nat.beq pc 35 then some (.ifCond .eq 26, 3, 61, 0, 0, mj_u) else none) else
       (bif Nat.beq pc 38 then some (.aload_n 0, 1, 0, 0, 0, mj_u) else none)))) else
    (bif Nat.blt pc 44 then (bif Nat.blt pc 42 then (bif Nat.beq pc 39 then some (.getfield 9, 3, 3, 1, 200, .null) else none) else
      (bif Nat.blt pc 43 then (bif Nat.beq pc 42 then some (.iload_n 1, 1, 1, 0, 0, mj_u) else none) else
       (bif Nat.beq pc 43 then some (.aload_n 0, 1, 0, 0, 0, mj_u) else none))) else
     (bif Nat.blt pc 50 then (bif Nat.blt pc 47 then (bif Nat.beq pc 44 then some (.getfield 29, 3, 3, 0, 199, .null) else none) else
       (bif Nat.beq pc 47 then some (.getfield 66, 3, 4, 0, 90, .null) else none)) else
      (bif Nat.blt pc 51 then (bif Nat.beq pc 50 then some (.iload_n 1, 1, 1, 0, 0, mj_u) else none) else
       (bif Nat.beq pc 51 then some (.iaload, 1, 0, 0, 0, mj_u) else none)))))) else
  (bif Nat.blt pc 80 then (bif Nat.blt pc 67 then (bif Nat.blt pc 57 then (bif Nat.blt pc 53 then (bif Nat.beq pc 52 then some (.iastore, 1, 0, 0, 0, mj_u) else none) else
      (bif Nat.blt pc 54 then (bif Nat.beq pc 53 then some (.aload_n 0, 1, 0, 0, 0, mj_u) else none) else
       (bif Nat.beq pc 54 then some (.getfield 18, 3, 3, 2, 202, .null) else none))) else
     (bif Nat.blt pc 61 then (bif Nat.blt pc 58 then (bif Nat.beq pc 57 then some (.iload_n 1, 1, 1, 0, 0, mj_u) else none) else
       (bif Nat.beq pc 58 then some (.invokevirtual 69, 3, 23, 0, 357, mj_u) else none)) else
      (bif Nat.blt pc 64 then (bif Nat.beq pc 61 then some (.iinc 1 1, 3, 1, 0, 0, .int 1) else none) else
       (bif Nat.beq pc 64 then some (.goto (-55), 3, 9, 0, 0, mj_u) else none)))) else
    (bif Nat.blt pc 70 then (bif Nat.blt pc 68 then (bif Nat.beq pc 67 then some (.iconst 0, 1, 0, 0, 0, .int 0) else none) else
      (bif Nat.blt pc 69 then (bif Nat.beq pc 68 then some (.istore_n 1, 1, 1, 0, 0, mj_u) else none) else
       (bif Nat.beq pc 69 then some (.iload_n 1, 1, 1, 0, 0, mj_u) else none))) else
     (bif Nat.blt pc 74 then (bif Nat.blt pc 71 then (bif Nat.beq pc 70 then some (.aload_n 0, 1, 0, 0, 0, mj_u) else none) else
       (bif Nat.beq pc 71 then some (.getfield 29, 3, 3, 0, 199, .null) else none)) else
      (bif Nat.blt pc 77 then (bif Nat.beq pc 74 then some (.getfield 43, 3, 4, 5, 104, .int 0) else none) else
       (bif Nat.beq pc 77 then some (.if_icmp .ge 30, 3, 107, 0, 0, mj_u) else none))))) else
   (bif Nat.blt pc 93 then (bif Nat.blt pc 85 then (bif Nat.blt pc 81 then (bif Nat.beq pc 80 then some (.aload_n 0, 1, 0, 0, 0, mj_u) else none) else
      (bif Nat.blt pc 84 then (bif Nat.beq pc 81 then some (.getfield 18, 3, 3, 2, 202, .null) else none) else
       (bif Nat.beq pc 84 then some (.aload_n 0, 1, 0, 0, 0, mj_u) else none))) else
     (bif Nat.blt pc 91 then (bif Nat.blt pc 88 then (bif Nat.beq pc 85 then some (.getfield 9, 3, 3, 1, 200, .null) else none) else
       (bif Nat.beq pc 88 then some (.invokevirtual 73, 3, 24, 0, 361, mj_u) else none)) else
      (bif Nat.blt pc 92 then (bif Nat.beq pc 91 then some (.istore_n 2, 1, 2, 0, 0, mj_u) else none) else
       (bif Nat.beq pc 92 then some (.iload_n 2, 1, 2, 0, 0, mj_u) else none)))) else
    (bif Nat.blt pc 98 then (bif Nat.blt pc 96 then (bif Nat.beq pc 93 then some (.ifCond .lt 8, 3, 101, 0, 0, mj_u) else none) else
      (bif Nat.blt pc 97 then (bif Nat.beq pc 96 then some (.aload_n 0, 1, 0, 0, 0, mj_u) else none) else
       (bif Nat.beq pc 97 then some (.iload_n 2, 1, 2, 0, 0, mj_u) else none))) else
     (bif Nat.blt pc 104 then (bif Nat.blt pc 101 then (bif Nat.beq pc 98 then some (.invokevirtual 77, 3, 25, 0, 365, mj_u) else none) else
       (bif Nat.beq pc 101 then some (.iinc 1 1, 3, 1, 0, 0, .int 1) else none)) else
      (bif Nat.blt pc 107 then (bif Nat.beq pc 104 then some (.goto (-35), 3, 69, 0, 0, mj_u) else none) else
       (bif Nat.beq pc 107 then some (.return_, 1, 0, 0, 0, mj_u) else none))))))
def m_Hollows_findLevels : mj_M := (20, prog_5_method_3_code, 3, (Option.none : Option Jvm.ClassFile.FieldType), 3, 0, 348, 347, 1, 48, 108, k_Hollows_findLevels)
/-- WatershedMap$Frontier.clear()V -/
def k_Frontier_clear : Nat → Option mj_I := fun pc =>
  bif Nat.blt pc 2 then (bif Nat.blt pc 1 then (bif Nat.beq pc 0 then some (.aload_n 0, 1, 0, 0, 0, mj_u) else none) else
   (bif Nat.beq pc 1 then some (.iconst 0, 1, 0, 0, 0, .int 0) else none)) else
  (bif Nat.blt pc 5 then (bif Nat.beq pc 2 then some (.putfield 15, 3, 1, 1, 183, .int 0) else none) else
   (bif Nat.beq pc 5 then some (.return_, 1, 0, 0, 0, mj_u) else none))
def m_Frontier_clear : mj_M := (21, prog_3_method_2_code, 1, (Option.none : Option Jvm.ClassFile.FieldType), 1, 0, 352, 350, 351, 49, 6, k_Frontier_clear)
/-- WatershedMap$Land.atEdge(I)Z -/
def k_Land_atEdge : Nat → Option mj_I := fun pc =>
  bif Nat.blt pc 16 then (bif Nat.blt pc 5 then (bif Nat.blt pc 2 then (bif Nat.blt pc 1 then (bif Nat.beq pc 0 then some (.iconst 0, 1, 0, 0, 0, .int 0) else none) else
     (bif Nat.beq pc 1 then some (.istore_n 2, 1, 2, 0, 0, mj_u) else none)) else
    (bif Nat.blt pc 3 then (bif Nat.beq pc 2 then some (.iconst 0, 1, 0, 0, 0, .int 0) else none) else
     (bif Nat.blt pc 4 then (bif Nat.beq pc 3 then some (.istore_n 3, 1, 3, 0, 0, mj_u) else none) else
      (bif Nat.beq pc 4 then some (.iload_n 3, 1, 3, 0, 0, mj_u) else none)))) else
   (bif Nat.blt pc 11 then (bif Nat.blt pc 7 then (bif Nat.beq pc 5 then some (.bipush 8, 2, 0, 0, 0, .int 8) else none) else
     (bif Nat.blt pc 10 then (bif Nat.beq pc 7 then some (.if_icmp .ge 28, 3, 35, 0, 0, mj_u) else none) else
      (bif Nat.beq pc 10 then some (.iload_n 2, 1, 2, 0, 0, mj_u) else none))) else
    (bif Nat.blt pc 14 then (bif Nat.beq pc 11 then some (.ifCond .ne 12, 3, 23, 0, 0, mj_u) else none) else
     (bif Nat.blt pc 15 then (bif Nat.beq pc 14 then some (.aload_n 0, 1, 0, 0, 0, mj_u) else none) else
      (bif Nat.beq pc 15 then some (.iload_n 1, 1, 1, 0, 0, mj_u) else none))))) else
  (bif Nat.blt pc 27 then (bif Nat.blt pc 20 then (bif Nat.blt pc 17 then (bif Nat.beq pc 16 then some (.iload_n 3, 1, 3, 0, 0, mj_u) else none) else
     (bif Nat.beq pc 17 then some (.invokevirtual 55, 3, 16, 0, 329, mj_u) else none)) else
    (bif Nat.blt pc 23 then (bif Nat.beq pc 20 then some (.ifCond .ge 7, 3, 27, 0, 0, mj_u) else none) else
     (bif Nat.blt pc 24 then (bif Nat.beq pc 23 then some (.iconst 1, 1, 0, 0, 0, .int 1) else none) else
      (bif Nat.beq pc 24 then some (.goto 4, 3, 28, 0, 0, mj_u) else none)))) else
   (bif Nat.blt pc 32 then (bif Nat.blt pc 28 then (bif Nat.beq pc 27 then some (.iconst 0, 1, 0, 0, 0, .int 0) else none) else
     (bif Nat.blt pc 29 then (bif Nat.beq pc 28 then some (.istore_n 2, 1, 2, 0, 0, mj_u) else none) else
      (bif Nat.beq pc 29 then some (.iinc 3 2, 3, 3, 0, 0, .int 2) else none))) else
    (bif Nat.blt pc 35 then (bif Nat.beq pc 32 then some (.goto (-28), 3, 4, 0, 0, mj_u) else none) else
     (bif Nat.blt pc 36 then (bif Nat.beq pc 35 then some (.iload_n 2, 1, 2, 0, 0, mj_u) else none) else
      (bif Nat.beq pc 36 then some (.ireturn, 1, 0, 0, 0, mj_u) else none)))))
def m_Land_atEdge : mj_M := (22, prog_6_method_7_code, 4, (Option.some Jvm.ClassFile.FieldType.boolean), 4, 1, 356, 354, 355, 46, 37, k_Land_atEdge)
/-- WatershedMap$Frontier.add(I)V -/
def k_Frontier_add : Nat → Option mj_I := fun pc =>
  bif Nat.blt pc 18 then (bif Nat.blt pc 10 then (bif Nat.blt pc 4 then (bif Nat.blt pc 1 then (bif Nat.beq pc 0 then some (.aload_n 0, 1, 0, 0, 0, mj_u) else none) else
     (bif Nat.beq pc 1 then some (.getfield 15, 3, 1, 1, 183, .int 0) else none)) else
    (bif Nat.blt pc 7 then (bif Nat.beq pc 4 then some (.sipush 256, 3, 0, 0, 0, .int 256) else none) else
     (bif Nat.beq pc 7 then some (.if_icmp .ge 23, 3, 30, 0, 0, mj_u) else none))) else
   (bif Nat.blt pc 14 then (bif Nat.blt pc 11 then (bif Nat.beq pc 10 then some (.aload_n 0, 1, 0, 0, 0, mj_u) else none) else
     (bif Nat.beq pc 11 then some (.getfield 9, 3, 1, 0, 182, .null) else none)) else
    (bif Nat.blt pc 15 then (bif Nat.beq pc 14 then some (.aload_n 0, 1, 0, 0, 0, mj_u) else none) else
     (bif Nat.beq pc 15 then some (.getfield 15, 3, 1, 1, 183, .int 0) else none)))) else
  (bif Nat.blt pc 22 then (bif Nat.blt pc 20 then (bif Nat.blt pc 19 then (bif Nat.beq pc 18 then some (.iload_n 1, 1, 1, 0, 0, mj_u) else none) else
     (bif Nat.beq pc 19 then some (.iastore, 1, 0, 0, 0, mj_u) else none)) else
    (bif Nat.blt pc 21 then (bif Nat.beq pc 20 then some (.aload_n 0, 1, 0, 0, 0, mj_u) else none) else
     (bif Nat.beq pc 21 then some (.dup, 1, 0, 0, 0, mj_u) else none))) else
   (bif Nat.blt pc 26 then (bif Nat.blt pc 25 then (bif Nat.beq pc 22 then some (.getfield 15, 3, 1, 1, 183, .int 0) else none) else
     (bif Nat.beq pc 25 then some (.iconst 1, 1, 0, 0, 0, .int 1) else none)) else
    (bif Nat.blt pc 27 then (bif Nat.beq pc 26 then some (.iadd, 1, 0, 0, 0, mj_u) else none) else
     (bif Nat.blt pc 30 then (bif Nat.beq pc 27 then some (.putfield 15, 3, 1, 1, 183, .int 0) else none) else
      (bif Nat.beq pc 30 then some (.return_, 1, 0, 0, 0, mj_u) else none)))))
def m_Frontier_add : mj_M := (23, prog_3_method_3_code, 2, (Option.none : Option Jvm.ClassFile.FieldType), 1, 1, 360, 358, 359, 49, 31, k_Frontier_add)
/-- WatershedMap$Frontier.takeLeast([I)I -/
def k_Frontier_takeLeast : Nat → Option mj_I := fun pc =>
  bif Nat.blt pc 40 then (bif Nat.blt pc 21 then (bif Nat.blt pc 10 then (bif Nat.blt pc 7 then (bif Nat.blt pc 1 then (bif Nat.beq pc 0 then some (.aload_n 0, 1, 0, 0, 0, mj_u) else none) else
      (bif Nat.blt pc 4 then (bif Nat.beq pc 1 then some (.getfield 15, 3, 1, 1, 183, .int 0) else none) else
       (bif Nat.beq pc 4 then some (.ifCond .ne 5, 3, 9, 0, 0, mj_u) else none))) else
     (bif Nat.blt pc 8 then (bif Nat.beq pc 7 then some (.iconst (-1), 1, 0, 0, 0, .int (-1)) else none) else
      (bif Nat.blt pc 9 then (bif Nat.beq pc 8 then some (.ireturn, 1, 0, 0, 0, mj_u) else none) else
       (bif Nat.beq pc 9 then some (.iconst 0, 1, 0, 0, 0, .int 0) else none)))) else
    (bif Nat.blt pc 13 then (bif Nat.blt pc 11 then (bif Nat.beq pc 10 then some (.istore_n 2, 1, 2, 0, 0, mj_u) else none) else
      (bif Nat.blt pc 12 then (bif Nat.beq pc 11 then some (.iconst 1, 1, 0, 0, 0, .int 1) else none) else
       (bif Nat.beq pc 12 then some (.istore_n 3, 1, 3, 0, 0, mj_u) else none))) else
     (bif Nat.blt pc 15 then (bif Nat.blt pc 14 then (bif Nat.beq pc 13 then some (.iload_n 3, 1, 3, 0, 0, mj_u) else none) else
       (bif Nat.beq pc 14 then some (.aload_n 0, 1, 0, 0, 0, mj_u) else none)) else
      (bif Nat.blt pc 18 then (bif Nat.beq pc 15 then some (.getfield 15, 3, 1, 1, 183, .int 0) else none) else
       (bif Nat.beq pc 18 then some (.if_icmp .ge 30, 3, 48, 0, 0, mj_u) else none))))) else
   (bif Nat.blt pc 29 then (bif Nat.blt pc 26 then (bif Nat.blt pc 22 then (bif Nat.beq pc 21 then some (.aload_n 1, 1, 1, 0, 0, mj_u) else none) else
      (bif Nat.blt pc 23 then (bif Nat.beq pc 22 then some (.aload_n 0, 1, 0, 0, 0, mj_u) else none) else
       (bif Nat.beq pc 23 then some (.getfield 9, 3, 1, 0, 182, .null) else none))) else
     (bif Nat.blt pc 27 then (bif Nat.beq pc 26 then some (.iload_n 3, 1, 3, 0, 0, mj_u) else none) else
      (bif Nat.blt pc 28 then (bif Nat.beq pc 27 then some (.iaload, 1, 0, 0, 0, mj_u) else none) else
       (bif Nat.beq pc 28 then some (.iaload, 1, 0, 0, 0, mj_u) else none)))) else
    (bif Nat.blt pc 34 then (bif Nat.blt pc 30 then (bif Nat.beq pc 29 then some (.aload_n 1, 1, 1, 0, 0, mj_u) else none) else
      (bif Nat.blt pc 31 then (bif Nat.beq pc 30 then some (.aload_n 0, 1, 0, 0, 0, mj_u) else none) else
       (bif Nat.beq pc 31 then some (.getfield 9, 3, 1, 0, 182, .null) else none))) else
     (bif Nat.blt pc 36 then (bif Nat.blt pc 35 then (bif Nat.beq pc 34 then some (.iload_n 2, 1, 2, 0, 0, mj_u) else none) else
       (bif Nat.beq pc 35 then some (.iaload, 1, 0, 0, 0, mj_u) else none)) else
      (bif Nat.blt pc 37 then (bif Nat.beq pc 36 then some (.iaload, 1, 0, 0, 0, mj_u) else none) else
       (bif Nat.beq pc 37 then some (.if_icmp .ge 5, 3, 42, 0, 0, mj_u) else none)))))) else
  (bif Nat.blt pc 61 then (bif Nat.blt pc 52 then (bif Nat.blt pc 45 then (bif Nat.blt pc 41 then (bif Nat.beq pc 40 then some (.iload_n 3, 1, 3, 0, 0, mj_u) else none) else
      (bif Nat.blt pc 42 then (bif Nat.beq pc 41 then some (.istore_n 2, 1, 2, 0, 0, mj_u) else none) else
       (bif Nat.beq pc 42 then some (.iinc 3 1, 3, 3, 0, 0, .int 1) else none))) else
     (bif Nat.blt pc 48 then (bif Nat.beq pc 45 then some (.goto (-32), 3, 13, 0, 0, mj_u) else none) else
      (bif Nat.blt pc 49 then (bif Nat.beq pc 48 then some (.aload_n 0, 1, 0, 0, 0, mj_u) else none) else
       (bif Nat.beq pc 49 then some (.getfield 9, 3, 1, 0, 182, .null) else none)))) else
    (bif Nat.blt pc 55 then (bif Nat.blt pc 53 then (bif Nat.beq pc 52 then some (.iload_n 2, 1, 2, 0, 0, mj_u) else none) else
      (bif Nat.blt pc 54 then (bif Nat.beq pc 53 then some (.iaload, 1, 0, 0, 0, mj_u) else none) else
       (bif Nat.beq pc 54 then some (.istore_n 3, 1, 3, 0, 0, mj_u) else none))) else
     (bif Nat.blt pc 57 then (bif Nat.blt pc 56 then (bif Nat.beq pc 55 then some (.aload_n 0, 1, 0, 0, 0, mj_u) else none) else
       (bif Nat.beq pc 56 then some (.dup, 1, 0, 0, 0, mj_u) else none)) else
      (bif Nat.blt pc 60 then (bif Nat.beq pc 57 then some (.getfield 15, 3, 1, 1, 183, .int 0) else none) else
       (bif Nat.beq pc 60 then some (.iconst 1, 1, 0, 0, 0, .int 1) else none))))) else
   (bif Nat.blt pc 71 then (bif Nat.blt pc 66 then (bif Nat.blt pc 62 then (bif Nat.beq pc 61 then some (.isub, 1, 0, 0, 0, mj_u) else none) else
      (bif Nat.blt pc 65 then (bif Nat.beq pc 62 then some (.putfield 15, 3, 1, 1, 183, .int 0) else none) else
       (bif Nat.beq pc 65 then some (.aload_n 0, 1, 0, 0, 0, mj_u) else none))) else
     (bif Nat.blt pc 69 then (bif Nat.beq pc 66 then some (.getfield 9, 3, 1, 0, 182, .null) else none) else
      (bif Nat.blt pc 70 then (bif Nat.beq pc 69 then some (.iload_n 2, 1, 2, 0, 0, mj_u) else none) else
       (bif Nat.beq pc 70 then some (.aload_n 0, 1, 0, 0, 0, mj_u) else none)))) else
    (bif Nat.blt pc 78 then (bif Nat.blt pc 74 then (bif Nat.beq pc 71 then some (.getfield 9, 3, 1, 0, 182, .null) else none) else
      (bif Nat.blt pc 75 then (bif Nat.beq pc 74 then some (.aload_n 0, 1, 0, 0, 0, mj_u) else none) else
       (bif Nat.beq pc 75 then some (.getfield 15, 3, 1, 1, 183, .int 0) else none))) else
     (bif Nat.blt pc 80 then (bif Nat.blt pc 79 then (bif Nat.beq pc 78 then some (.iaload, 1, 0, 0, 0, mj_u) else none) else
       (bif Nat.beq pc 79 then some (.iastore, 1, 0, 0, 0, mj_u) else none)) else
      (bif Nat.blt pc 81 then (bif Nat.beq pc 80 then some (.iload_n 3, 1, 3, 0, 0, mj_u) else none) else
       (bif Nat.beq pc 81 then some (.ireturn, 1, 0, 0, 0, mj_u) else none))))))
def m_Frontier_takeLeast : mj_M := (24, prog_3_method_4_code, 4, (Option.some Jvm.ClassFile.FieldType.int), 1, 1, 364, 362, 363, 49, 82, k_Frontier_takeLeast)
/-- WatershedMap$Hollows.spread(I)V -/
def k_Hollows_spread : Nat → Option mj_I := fun pc =>
  bif Nat.blt pc 33 then (bif Nat.blt pc 17 then (bif Nat.blt pc 8 then (bif Nat.blt pc 2 then (bif Nat.blt pc 1 then (bif Nat.beq pc 0 then some (.iconst 0, 1, 0, 0, 0, .int 0) else none) else
      (bif Nat.beq pc 1 then some (.istore_n 2, 1, 2, 0, 0, mj_u) else none)) else
     (bif Nat.blt pc 3 then (bif Nat.beq pc 2 then some (.iload_n 2, 1, 2, 0, 0, mj_u) else none) else
      (bif Nat.blt pc 5 then (bif Nat.beq pc 3 then some (.bipush 8, 2, 0, 0, 0, .int 8) else none) else
       (bif Nat.beq pc 5 then some (.if_icmp .ge 65, 3, 70, 0, 0, mj_u) else none)))) else
    (bif Nat.blt pc 12 then (bif Nat.blt pc 9 then (bif Nat.beq pc 8 then some (.aload_n 0, 1, 0, 0, 0, mj_u) else none) else
      (bif Nat.beq pc 9 then some (.getfield 29, 3, 3, 0, 199, .null) else none)) else
     (bif Nat.blt pc 13 then (bif Nat.beq pc 12 then some (.iload_n 1, 1, 1, 0, 0, mj_u) else none) else
      (bif Nat.blt pc 14 then (bif Nat.beq pc 13 then some (.iload_n 2, 1, 2, 0, 0, mj_u) else none) else
       (bif Nat.beq pc 14 then some (.invokevirtual 52, 3, 16, 0, 369, mj_u) else none))))) else
   (bif Nat.blt pc 26 then (bif Nat.blt pc 19 then (bif Nat.blt pc 18 then (bif Nat.beq pc 17 then some (.istore_n 3, 1, 3, 0, 0, mj_u) else none) else
      (bif Nat.beq pc 18 then some (.iload_n 3, 1, 3, 0, 0, mj_u) else none)) else
     (bif Nat.blt pc 22 then (bif Nat.beq pc 19 then some (.ifCond .lt 45, 3, 64, 0, 0, mj_u) else none) else
      (bif Nat.blt pc 23 then (bif Nat.beq pc 22 then some (.aload_n 0, 1, 0, 0, 0, mj_u) else none) else
       (bif Nat.beq pc 23 then some (.getfield 9, 3, 3, 1, 200, .null) else none)))) else
    (bif Nat.blt pc 28 then (bif Nat.blt pc 27 then (bif Nat.beq pc 26 then some (.iload_n 3, 1, 3, 0, 0, mj_u) else none) else
      (bif Nat.beq pc 27 then some (.iaload, 1, 0, 0, 0, mj_u) else none)) else
     (bif Nat.blt pc 29 then (bif Nat.beq pc 28 then some (.iconst (-1), 1, 0, 0, 0, .int (-1)) else none) else
      (bif Nat.blt pc 32 then (bif Nat.beq pc 29 then some (.if_icmp .ne 35, 3, 64, 0, 0, mj_u) else none) else
       (bif Nat.beq pc 32 then some (.aload_n 0, 1, 0, 0, 0, mj_u) else none)))))) else
  (bif Nat.blt pc 51 then (bif Nat.blt pc 42 then (bif Nat.blt pc 37 then (bif Nat.blt pc 36 then (bif Nat.beq pc 33 then some (.getfield 9, 3, 3, 1, 200, .null) else none) else
      (bif Nat.beq pc 36 then some (.iload_n 3, 1, 3, 0, 0, mj_u) else none)) else
     (bif Nat.blt pc 38 then (bif Nat.beq pc 37 then some (.aload_n 0, 1, 0, 0, 0, mj_u) else none) else
      (bif Nat.blt pc 41 then (bif Nat.beq pc 38 then some (.getfield 9, 3, 3, 1, 200, .null) else none) else
       (bif Nat.beq pc 41 then some (.iload_n 1, 1, 1, 0, 0, mj_u) else none)))) else
    (bif Nat.blt pc 44 then (bif Nat.blt pc 43 then (bif Nat.beq pc 42 then some (.iaload, 1, 0, 0, 0, mj_u) else none) else
      (bif Nat.beq pc 43 then some (.aload_n 0, 1, 0, 0, 0, mj_u) else none)) else
     (bif Nat.blt pc 47 then (bif Nat.beq pc 44 then some (.getfield 29, 3, 3, 0, 199, .null) else none) else
      (bif Nat.blt pc 50 then (bif Nat.beq pc 47 then some (.getfield 66, 3, 4, 0, 90, .null) else none) else
       (bif Nat.beq pc 50 then some (.iload_n 3, 1, 3, 0, 0, mj_u) else none))))) else
   (bif Nat.blt pc 60 then (bif Nat.blt pc 55 then (bif Nat.blt pc 52 then (bif Nat.beq pc 51 then some (.iaload, 1, 0, 0, 0, mj_u) else none) else
      (bif Nat.beq pc 52 then some (.invokestatic 80, 3, 26, 0, 370, mj_u) else none)) else
     (bif Nat.blt pc 56 then (bif Nat.beq pc 55 then some (.iastore, 1, 0, 0, 0, mj_u) else none) else
      (bif Nat.blt pc 57 then (bif Nat.beq pc 56 then some (.aload_n 0, 1, 0, 0, 0, mj_u) else none) else
       (bif Nat.beq pc 57 then some (.getfield 18, 3, 3, 2, 202, .null) else none)))) else
    (bif Nat.blt pc 64 then (bif Nat.blt pc 61 then (bif Nat.beq pc 60 then some (.iload_n 3, 1, 3, 0, 0, mj_u) else none) else
      (bif Nat.beq pc 61 then some (.invokevirtual 69, 3, 23, 0, 357, mj_u) else none)) else
     (bif Nat.blt pc 67 then (bif Nat.beq pc 64 then some (.iinc 2 2, 3, 2, 0, 0, .int 2) else none) else
      (bif Nat.blt pc 70 then (bif Nat.beq pc 67 then some (.goto (-65), 3, 2, 0, 0, mj_u) else none) else
       (bif Nat.beq pc 70 then some (.return_, 1, 0, 0, 0, mj_u) else none))))))
def m_Hollows_spread : mj_M := (25, prog_5_method_4_code, 4, (Option.none : Option Jvm.ClassFile.FieldType), 3, 1, 368, 367, 2, 48, 71, k_Hollows_spread)
/-- java/lang/Math.max(II)I static -/
def k_Math_max : Nat → Option mj_I := fun pc =>
  bif Nat.blt pc 5 then (bif Nat.blt pc 1 then (bif Nat.beq pc 0 then some (.iload_n 0, 1, 0, 0, 0, mj_u) else none) else
   (bif Nat.blt pc 2 then (bif Nat.beq pc 1 then some (.iload_n 1, 1, 1, 0, 0, mj_u) else none) else
    (bif Nat.beq pc 2 then some (.if_icmp .lt 7, 3, 9, 0, 0, mj_u) else none))) else
  (bif Nat.blt pc 9 then (bif Nat.blt pc 6 then (bif Nat.beq pc 5 then some (.iload_n 0, 1, 0, 0, 0, mj_u) else none) else
    (bif Nat.beq pc 6 then some (.goto 4, 3, 10, 0, 0, mj_u) else none)) else
   (bif Nat.blt pc 10 then (bif Nat.beq pc 9 then some (.iload_n 1, 1, 1, 0, 0, mj_u) else none) else
    (bif Nat.beq pc 10 then some (.ireturn, 1, 0, 0, 0, mj_u) else none)))
def m_Math_max : mj_M := (26, prog_22_method_65_code, 2, (Option.some Jvm.ClassFile.FieldType.int), 12, 2, 372, 371, 0, 62, 11, k_Math_max)
/-- WatershedMap$Groups.part()V -/
def k_Groups_part : Nat → Option mj_I := fun pc =>
  bif Nat.blt pc 10 then (bif Nat.blt pc 3 then (bif Nat.blt pc 1 then (bif Nat.beq pc 0 then some (.iconst 0, 1, 0, 0, 0, .int 0) else none) else
    (bif Nat.blt pc 2 then (bif Nat.beq pc 1 then some (.istore_n 1, 1, 1, 0, 0, mj_u) else none) else
     (bif Nat.beq pc 2 then some (.iload_n 1, 1, 1, 0, 0, mj_u) else none))) else
   (bif Nat.blt pc 6 then (bif Nat.beq pc 3 then some (.sipush 512, 3, 0, 0, 0, .int 512) else none) else
    (bif Nat.blt pc 9 then (bif Nat.beq pc 6 then some (.if_icmp .ge 16, 3, 22, 0, 0, mj_u) else none) else
     (bif Nat.beq pc 9 then some (.aload_n 0, 1, 0, 0, 0, mj_u) else none)))) else
  (bif Nat.blt pc 15 then (bif Nat.blt pc 13 then (bif Nat.beq pc 10 then some (.getfield 9, 3, 2, 0, 195, .null) else none) else
    (bif Nat.blt pc 14 then (bif Nat.beq pc 13 then some (.iload_n 1, 1, 1, 0, 0, mj_u) else none) else
     (bif Nat.beq pc 14 then some (.iload_n 1, 1, 1, 0, 0, mj_u) else none))) else
   (bif Nat.blt pc 19 then (bif Nat.blt pc 16 then (bif Nat.beq pc 15 then some (.iastore, 1, 0, 0, 0, mj_u) else none) else
     (bif Nat.beq pc 16 then some (.iinc 1 1, 3, 1, 0, 0, .int 1) else none)) else
    (bif Nat.blt pc 22 then (bif Nat.beq pc 19 then some (.goto (-17), 3, 2, 0, 0, mj_u) else none) else
     (bif Nat.beq pc 22 then some (.return_, 1, 0, 0, 0, mj_u) else none))))
def m_Groups_part : mj_M := (27, prog_4_method_2_code, 2, (Option.none : Option Jvm.ClassFile.FieldType), 2, 0, 376, 374, 375, 50, 23, k_Groups_part)
/-- WatershedMap$Hollows.inLake(I)Z -/
def k_Hollows_inLake : Nat → Option mj_I := fun pc =>
  bif Nat.blt pc 8 then (bif Nat.blt pc 2 then (bif Nat.blt pc 1 then (bif Nat.beq pc 0 then some (.aload_n 0, 1, 0, 0, 0, mj_u) else none) else
    (bif Nat.beq pc 1 then some (.iload_n 1, 1, 1, 0, 0, mj_u) else none)) else
   (bif Nat.blt pc 5 then (bif Nat.beq pc 2 then some (.invokevirtual 89, 3, 29, 0, 381, mj_u) else none) else
    (bif Nat.beq pc 5 then some (.ifCond .le 7, 3, 12, 0, 0, mj_u) else none))) else
  (bif Nat.blt pc 12 then (bif Nat.blt pc 9 then (bif Nat.beq pc 8 then some (.iconst 1, 1, 0, 0, 0, .int 1) else none) else
    (bif Nat.beq pc 9 then some (.goto 4, 3, 13, 0, 0, mj_u) else none)) else
   (bif Nat.blt pc 13 then (bif Nat.beq pc 12 then some (.iconst 0, 1, 0, 0, 0, .int 0) else none) else
    (bif Nat.beq pc 13 then some (.ireturn, 1, 0, 0, 0, mj_u) else none)))
def m_Hollows_inLake : mj_M := (28, prog_5_method_6_code, 2, (Option.some Jvm.ClassFile.FieldType.boolean), 3, 1, 380, 379, 3, 48, 14, k_Hollows_inLake)
/-- WatershedMap$Hollows.depth(I)I -/
def k_Hollows_depth : Nat → Option mj_I := fun pc =>
  bif Nat.blt pc 7 then (bif Nat.blt pc 4 then (bif Nat.blt pc 1 then (bif Nat.beq pc 0 then some (.aload_n 0, 1, 0, 0, 0, mj_u) else none) else
    (bif Nat.beq pc 1 then some (.getfield 9, 3, 3, 1, 200, .null) else none)) else
   (bif Nat.blt pc 5 then (bif Nat.beq pc 4 then some (.iload_n 1, 1, 1, 0, 0, mj_u) else none) else
    (bif Nat.blt pc 6 then (bif Nat.beq pc 5 then some (.iaload, 1, 0, 0, 0, mj_u) else none) else
     (bif Nat.beq pc 6 then some (.aload_n 0, 1, 0, 0, 0, mj_u) else none)))) else
  (bif Nat.blt pc 14 then (bif Nat.blt pc 10 then (bif Nat.beq pc 7 then some (.getfield 29, 3, 3, 0, 199, .null) else none) else
    (bif Nat.blt pc 13 then (bif Nat.beq pc 10 then some (.getfield 66, 3, 4, 0, 90, .null) else none) else
     (bif Nat.beq pc 13 then some (.iload_n 1, 1, 1, 0, 0, mj_u) else none))) else
   (bif Nat.blt pc 15 then (bif Nat.beq pc 14 then some (.iaload, 1, 0, 0, 0, mj_u) else none) else
    (bif Nat.blt pc 16 then (bif Nat.beq pc 15 then some (.isub, 1, 0, 0, 0, mj_u) else none) else
     (bif Nat.beq pc 16 then some (.ireturn, 1, 0, 0, 0, mj_u) else none))))
def m_Hollows_depth : mj_M := (29, prog_5_method_7_code, 2, (Option.some Jvm.ClassFile.FieldType.int), 3, 1, 384, 383, 4, 48, 17, k_Hollows_depth)
/-- WatershedMap$Hollows.joinLakes(II)V -/
def k_Hollows_joinLakes : Nat → Option mj_I := fun pc =>
  bif Nat.blt pc 17 then (bif Nat.blt pc 6 then (bif Nat.blt pc 4 then (bif Nat.blt pc 1 then (bif Nat.beq pc 0 then some (.iload_n 2, 1, 2, 0, 0, mj_u) else none) else
     (bif Nat.beq pc 1 then some (.ifCond .lt 33, 3, 34, 0, 0, mj_u) else none)) else
    (bif Nat.blt pc 5 then (bif Nat.beq pc 4 then some (.aload_n 0, 1, 0, 0, 0, mj_u) else none) else
     (bif Nat.beq pc 5 then some (.iload_n 2, 1, 2, 0, 0, mj_u) else none))) else
   (bif Nat.blt pc 12 then (bif Nat.blt pc 9 then (bif Nat.beq pc 6 then some (.invokevirtual 48, 3, 28, 0, 377, mj_u) else none) else
     (bif Nat.beq pc 9 then some (.ifCond .eq 25, 3, 34, 0, 0, mj_u) else none)) else
    (bif Nat.blt pc 13 then (bif Nat.beq pc 12 then some (.aload_n 0, 1, 0, 0, 0, mj_u) else none) else
     (bif Nat.blt pc 16 then (bif Nat.beq pc 13 then some (.getfield 25, 3, 3, 3, 203, .null) else none) else
      (bif Nat.beq pc 16 then some (.iload_n 1, 1, 1, 0, 0, mj_u) else none))))) else
  (bif Nat.blt pc 26 then (bif Nat.blt pc 21 then (bif Nat.blt pc 18 then (bif Nat.beq pc 17 then some (.iload_n 2, 1, 2, 0, 0, mj_u) else none) else
     (bif Nat.beq pc 18 then some (.invokevirtual 85, 3, 31, 0, 389, mj_u) else none)) else
    (bif Nat.blt pc 24 then (bif Nat.beq pc 21 then some (.ifCond .eq 13, 3, 34, 0, 0, mj_u) else none) else
     (bif Nat.blt pc 25 then (bif Nat.beq pc 24 then some (.aload_n 0, 1, 0, 0, 0, mj_u) else none) else
      (bif Nat.beq pc 25 then some (.dup, 1, 0, 0, 0, mj_u) else none)))) else
   (bif Nat.blt pc 30 then (bif Nat.blt pc 29 then (bif Nat.beq pc 26 then some (.getfield 39, 3, 3, 4, 204, .int 0) else none) else
     (bif Nat.beq pc 29 then some (.iconst 1, 1, 0, 0, 0, .int 1) else none)) else
    (bif Nat.blt pc 31 then (bif Nat.beq pc 30 then some (.isub, 1, 0, 0, 0, mj_u) else none) else
     (bif Nat.blt pc 34 then (bif Nat.beq pc 31 then some (.putfield 39, 3, 3, 4, 204, .int 0) else none) else
      (bif Nat.beq pc 34 then some (.return_, 1, 0, 0, 0, mj_u) else none)))))
def m_Hollows_joinLakes : mj_M := (30, prog_5_method_5_code, 3, (Option.none : Option Jvm.ClassFile.FieldType), 3, 2, 388, 387, 5, 48, 35, k_Hollows_joinLakes)
/-- WatershedMap$Groups.join(II)Z -/
def k_Groups_join : Nat → Option mj_I := fun pc =>
  bif Nat.blt pc 17 then (bif Nat.blt pc 7 then (bif Nat.blt pc 2 then (bif Nat.blt pc 1 then (bif Nat.beq pc 0 then some (.aload_n 0, 1, 0, 0, 0, mj_u) else none) else
     (bif Nat.beq pc 1 then some (.iload_n 1, 1, 1, 0, 0, mj_u) else none)) else
    (bif Nat.blt pc 5 then (bif Nat.beq pc 2 then some (.invokevirtual 15, 3, 32, 0, 393, mj_u) else none) else
     (bif Nat.blt pc 6 then (bif Nat.beq pc 5 then some (.istore_n 3, 1, 3, 0, 0, mj_u) else none) else
      (bif Nat.beq pc 6 then some (.aload_n 0, 1, 0, 0, 0, mj_u) else none)))) else
   (bif Nat.blt pc 11 then (bif Nat.blt pc 8 then (bif Nat.beq pc 7 then some (.iload_n 2, 1, 2, 0, 0, mj_u) else none) else
     (bif Nat.beq pc 8 then some (.invokevirtual 15, 3, 32, 0, 393, mj_u) else none)) else
    (bif Nat.blt pc 13 then (bif Nat.beq pc 11 then some (.istore 4, 2, 4, 0, 0, mj_u) else none) else
     (bif Nat.blt pc 14 then (bif Nat.beq pc 13 then some (.aload_n 0, 1, 0, 0, 0, mj_u) else none) else
      (bif Nat.beq pc 14 then some (.getfield 9, 3, 2, 0, 195, .null) else none))))) else
  (bif Nat.blt pc 24 then (bif Nat.blt pc 20 then (bif Nat.blt pc 19 then (bif Nat.beq pc 17 then some (.iload 4, 2, 4, 0, 0, mj_u) else none) else
     (bif Nat.beq pc 19 then some (.iload_n 3, 1, 3, 0, 0, mj_u) else none)) else
    (bif Nat.blt pc 21 then (bif Nat.beq pc 20 then some (.iastore, 1, 0, 0, 0, mj_u) else none) else
     (bif Nat.blt pc 23 then (bif Nat.beq pc 21 then some (.iload 4, 2, 4, 0, 0, mj_u) else none) else
      (bif Nat.beq pc 23 then some (.iload_n 3, 1, 3, 0, 0, mj_u) else none)))) else
   (bif Nat.blt pc 28 then (bif Nat.blt pc 27 then (bif Nat.beq pc 24 then some (.if_icmp .eq 7, 3, 31, 0, 0, mj_u) else none) else
     (bif Nat.beq pc 27 then some (.iconst 1, 1, 0, 0, 0, .int 1) else none)) else
    (bif Nat.blt pc 31 then (bif Nat.beq pc 28 then some (.goto 4, 3, 32, 0, 0, mj_u) else none) else
     (bif Nat.blt pc 32 then (bif Nat.beq pc 31 then some (.iconst 0, 1, 0, 0, 0, .int 0) else none) else
      (bif Nat.beq pc 32 then some (.ireturn, 1, 0, 0, 0, mj_u) else none)))))
def m_Groups_join : mj_M := (31, prog_4_method_4_code, 5, (Option.some Jvm.ClassFile.FieldType.boolean), 2, 2, 392, 390, 391, 50, 33, k_Groups_join)
/-- WatershedMap$Groups.leaderOf(I)I -/
def k_Groups_leaderOf : Nat → Option mj_I := fun pc =>
  bif Nat.blt pc 21 then (bif Nat.blt pc 8 then (bif Nat.blt pc 3 then (bif Nat.blt pc 1 then (bif Nat.beq pc 0 then some (.iload_n 1, 1, 1, 0, 0, mj_u) else none) else
     (bif Nat.blt pc 2 then (bif Nat.beq pc 1 then some (.istore_n 2, 1, 2, 0, 0, mj_u) else none) else
      (bif Nat.beq pc 2 then some (.iconst 0, 1, 0, 0, 0, .int 0) else none))) else
    (bif Nat.blt pc 4 then (bif Nat.beq pc 3 then some (.istore_n 3, 1, 3, 0, 0, mj_u) else none) else
     (bif Nat.blt pc 5 then (bif Nat.beq pc 4 then some (.iload_n 3, 1, 3, 0, 0, mj_u) else none) else
      (bif Nat.beq pc 5 then some (.sipush 512, 3, 0, 0, 0, .int 512) else none)))) else
   (bif Nat.blt pc 15 then (bif Nat.blt pc 11 then (bif Nat.beq pc 8 then some (.if_icmp .ge 26, 3, 34, 0, 0, mj_u) else none) else
     (bif Nat.blt pc 12 then (bif Nat.beq pc 11 then some (.aload_n 0, 1, 0, 0, 0, mj_u) else none) else
      (bif Nat.beq pc 12 then some (.getfield 9, 3, 2, 0, 195, .null) else none))) else
    (bif Nat.blt pc 17 then (bif Nat.blt pc 16 then (bif Nat.beq pc 15 then some (.iload_n 2, 1, 2, 0, 0, mj_u) else none) else
      (bif Nat.beq pc 16 then some (.iaload, 1, 0, 0, 0, mj_u) else none)) else
     (bif Nat.blt pc 18 then (bif Nat.beq pc 17 then some (.iload_n 2, 1, 2, 0, 0, mj_u) else none) else
      (bif Nat.beq pc 18 then some (.if_icmp .eq 16, 3, 34, 0, 0, mj_u) else none))))) else
  (bif Nat.blt pc 34 then (bif Nat.blt pc 26 then (bif Nat.blt pc 22 then (bif Nat.beq pc 21 then some (.aload_n 0, 1, 0, 0, 0, mj_u) else none) else
     (bif Nat.blt pc 25 then (bif Nat.beq pc 22 then some (.getfield 9, 3, 2, 0, 195, .null) else none) else
      (bif Nat.beq pc 25 then some (.iload_n 2, 1, 2, 0, 0, mj_u) else none))) else
    (bif Nat.blt pc 28 then (bif Nat.blt pc 27 then (bif Nat.beq pc 26 then some (.iaload, 1, 0, 0, 0, mj_u) else none) else
      (bif Nat.beq pc 27 then some (.istore_n 2, 1, 2, 0, 0, mj_u) else none)) else
     (bif Nat.blt pc 31 then (bif Nat.beq pc 28 then some (.iinc 3 1, 3, 3, 0, 0, .int 1) else none) else
      (bif Nat.beq pc 31 then some (.goto (-27), 3, 4, 0, 0, mj_u) else none)))) else
   (bif Nat.blt pc 39 then (bif Nat.blt pc 35 then (bif Nat.beq pc 34 then some (.aload_n 0, 1, 0, 0, 0, mj_u) else none) else
     (bif Nat.blt pc 38 then (bif Nat.beq pc 35 then some (.getfield 9, 3, 2, 0, 195, .null) else none) else
      (bif Nat.beq pc 38 then some (.iload_n 1, 1, 1, 0, 0, mj_u) else none))) else
    (bif Nat.blt pc 41 then (bif Nat.blt pc 40 then (bif Nat.beq pc 39 then some (.iload_n 2, 1, 2, 0, 0, mj_u) else none) else
      (bif Nat.beq pc 40 then some (.iastore, 1, 0, 0, 0, mj_u) else none)) else
     (bif Nat.blt pc 42 then (bif Nat.beq pc 41 then some (.iload_n 2, 1, 2, 0, 0, mj_u) else none) else
      (bif Nat.beq pc 42 then some (.ireturn, 1, 0, 0, 0, mj_u) else none)))))
def m_Groups_leaderOf : mj_M := (32, prog_4_method_3_code, 4, (Option.some Jvm.ClassFile.FieldType.int), 2, 1, 396, 394, 395, 50, 43, k_Groups_leaderOf)
/-- WatershedMap$Land.raiseTo([I)I -/
def k_Land_raiseTo : Nat → Option mj_I := fun pc =>
  bif Nat.blt pc 16 then (bif Nat.blt pc 6 then (bif Nat.blt pc 3 then (bif Nat.blt pc 1 then (bif Nat.beq pc 0 then some (.iconst 0, 1, 0, 0, 0, .int 0) else none) else
     (bif Nat.blt pc 2 then (bif Nat.beq pc 1 then some (.istore_n 2, 1, 2, 0, 0, mj_u) else none) else
      (bif Nat.beq pc 2 then some (.iconst 0, 1, 0, 0, 0, .int 0) else none))) else
    (bif Nat.blt pc 4 then (bif Nat.beq pc 3 then some (.istore_n 3, 1, 3, 0, 0, mj_u) else none) else
     (bif Nat.blt pc 5 then (bif Nat.beq pc 4 then some (.iload_n 3, 1, 3, 0, 0, mj_u) else none) else
      (bif Nat.beq pc 5 then some (.aload_n 0, 1, 0, 0, 0, mj_u) else none)))) else
   (bif Nat.blt pc 13 then (bif Nat.blt pc 9 then (bif Nat.beq pc 6 then some (.getfield 28, 3, 4, 5, 103, .int 0) else none) else
     (bif Nat.blt pc 12 then (bif Nat.beq pc 9 then some (.if_icmp .ge 24, 3, 33, 0, 0, mj_u) else none) else
      (bif Nat.beq pc 12 then some (.iload_n 2, 1, 2, 0, 0, mj_u) else none))) else
    (bif Nat.blt pc 14 then (bif Nat.beq pc 13 then some (.aload_n 1, 1, 1, 0, 0, mj_u) else none) else
     (bif Nat.blt pc 15 then (bif Nat.beq pc 14 then some (.iload_n 3, 1, 3, 0, 0, mj_u) else none) else
      (bif Nat.beq pc 15 then some (.iaload, 1, 0, 0, 0, mj_u) else none))))) else
  (bif Nat.blt pc 24 then (bif Nat.blt pc 19 then (bif Nat.blt pc 17 then (bif Nat.beq pc 16 then some (.aload_n 0, 1, 0, 0, 0, mj_u) else none) else
     (bif Nat.blt pc 18 then (bif Nat.beq pc 17 then some (.iload_n 3, 1, 3, 0, 0, mj_u) else none) else
      (bif Nat.beq pc 18 then some (.aload_n 1, 1, 1, 0, 0, mj_u) else none))) else
    (bif Nat.blt pc 20 then (bif Nat.beq pc 19 then some (.iload_n 3, 1, 3, 0, 0, mj_u) else none) else
     (bif Nat.blt pc 21 then (bif Nat.beq pc 20 then some (.iaload, 1, 0, 0, 0, mj_u) else none) else
      (bif Nat.beq pc 21 then some (.invokevirtual 80, 3, 17, 0, 333, mj_u) else none)))) else
   (bif Nat.blt pc 27 then (bif Nat.blt pc 25 then (bif Nat.beq pc 24 then some (.isub, 1, 0, 0, 0, mj_u) else none) else
     (bif Nat.blt pc 26 then (bif Nat.beq pc 25 then some (.iadd, 1, 0, 0, 0, mj_u) else none) else
      (bif Nat.beq pc 26 then some (.istore_n 2, 1, 2, 0, 0, mj_u) else none))) else
    (bif Nat.blt pc 33 then (bif Nat.blt pc 30 then (bif Nat.beq pc 27 then some (.iinc 3 1, 3, 3, 0, 0, .int 1) else none) else
      (bif Nat.beq pc 30 then some (.goto (-26), 3, 4, 0, 0, mj_u) else none)) else
     (bif Nat.blt pc 34 then (bif Nat.beq pc 33 then some (.iload_n 2, 1, 2, 0, 0, mj_u) else none) else
      (bif Nat.beq pc 34 then some (.ireturn, 1, 0, 0, 0, mj_u) else none)))))
def m_Land_raiseTo : mj_M := (33, prog_6_method_22_code, 4, (Option.some Jvm.ClassFile.FieldType.int), 4, 1, 400, 398, 399, 46, 35, k_Land_raiseTo)
/-- WatershedMap.basins()I -/
def k_W_basins : Nat → Option mj_I := fun pc =>
  bif Nat.blt pc 15 then (bif Nat.blt pc 5 then (bif Nat.blt pc 1 then (bif Nat.beq pc 0 then some (.aload_n 0, 1, 0, 0, 0, mj_u) else none) else
    (bif Nat.blt pc 4 then (bif Nat.beq pc 1 then some (.getfield 21, 3, 8, 1, 297, .null) else none) else
     (bif Nat.beq pc 4 then some (.aload_n 0, 1, 0, 0, 0, mj_u) else none))) else
   (bif Nat.blt pc 11 then (bif Nat.blt pc 8 then (bif Nat.beq pc 5 then some (.getfield 57, 3, 8, 7, 303, .int 0) else none) else
     (bif Nat.beq pc 8 then some (.invokevirtual 100, 3, 35, 0, 405, mj_u) else none)) else
    (bif Nat.blt pc 12 then (bif Nat.beq pc 11 then some (.aload_n 0, 1, 0, 0, 0, mj_u) else none) else
     (bif Nat.beq pc 12 then some (.getfield 21, 3, 8, 1, 297, .null) else none)))) else
  (bif Nat.blt pc 24 then (bif Nat.blt pc 20 then (bif Nat.blt pc 17 then (bif Nat.beq pc 15 then some (.bipush 8, 2, 0, 0, 0, .int 8) else none) else
     (bif Nat.beq pc 17 then some (.invokevirtual 127, 3, 42, 0, 436, mj_u) else none)) else
    (bif Nat.blt pc 21 then (bif Nat.beq pc 20 then some (.aload_n 0, 1, 0, 0, 0, mj_u) else none) else
     (bif Nat.beq pc 21 then some (.getfield 21, 3, 8, 1, 297, .null) else none))) else
   (bif Nat.blt pc 29 then (bif Nat.blt pc 26 then (bif Nat.beq pc 24 then some (.bipush 9, 2, 0, 0, 0, .int 9) else none) else
     (bif Nat.beq pc 26 then some (.invokevirtual 127, 3, 42, 0, 436, mj_u) else none)) else
    (bif Nat.blt pc 30 then (bif Nat.beq pc 29 then some (.iadd, 1, 0, 0, 0, mj_u) else none) else
     (bif Nat.beq pc 30 then some (.ireturn, 1, 0, 0, 0, mj_u) else none))))
def m_W_basins : mj_M := (34, prog_1_method_14_code, 1, (Option.some Jvm.ClassFile.FieldType.int), 8, 0, 404, 402, 403, 45, 31, k_W_basins)
/-- WatershedMap$Streams.run(I)V -/
def k_Streams_run : Nat → Option mj_I := fun pc =>
  bif Nat.blt pc 40 then (bif Nat.blt pc 21 then (bif Nat.blt pc 7 then (bif Nat.blt pc 2 then (bif Nat.blt pc 1 then (bif Nat.beq pc 0 then some (.iconst 0, 1, 0, 0, 0, .int 0) else none) else
      (bif Nat.beq pc 1 then some (.istore_n 2, 1, 2, 0, 0, mj_u) else none)) else
     (bif Nat.blt pc 3 then (bif Nat.beq pc 2 then some (.iload_n 2, 1, 2, 0, 0, mj_u) else none) else
      (bif Nat.blt pc 4 then (bif Nat.beq pc 3 then some (.aload_n 0, 1, 0, 0, 0, mj_u) else none) else
       (bif Nat.beq pc 4 then some (.getfield 43, 3, 6, 0, 127, .null) else none)))) else
    (bif Nat.blt pc 14 then (bif Nat.blt pc 10 then (bif Nat.beq pc 7 then some (.getfield 47, 3, 4, 5, 102, .int 0) else none) else
      (bif Nat.blt pc 13 then (bif Nat.beq pc 10 then some (.if_icmp .ge 14, 3, 24, 0, 0, mj_u) else none) else
       (bif Nat.beq pc 13 then some (.aload_n 0, 1, 0, 0, 0, mj_u) else none))) else
     (bif Nat.blt pc 15 then (bif Nat.beq pc 14 then some (.iload_n 2, 1, 2, 0, 0, mj_u) else none) else
      (bif Nat.blt pc 18 then (bif Nat.beq pc 15 then some (.invokevirtual 53, 3, 36, 0, 409, mj_u) else none) else
       (bif Nat.beq pc 18 then some (.iinc 2 1, 3, 2, 0, 0, .int 1) else none))))) else
   (bif Nat.blt pc 30 then (bif Nat.blt pc 25 then (bif Nat.blt pc 24 then (bif Nat.beq pc 21 then some (.goto (-19), 3, 2, 0, 0, mj_u) else none) else
      (bif Nat.beq pc 24 then some (.aload_n 0, 1, 0, 0, 0, mj_u) else none)) else
     (bif Nat.blt pc 28 then (bif Nat.beq pc 25 then some (.invokevirtual 57, 3, 38, 0, 418, mj_u) else none) else
      (bif Nat.blt pc 29 then (bif Nat.beq pc 28 then some (.iconst 0, 1, 0, 0, 0, .int 0) else none) else
       (bif Nat.beq pc 29 then some (.istore_n 2, 1, 2, 0, 0, mj_u) else none)))) else
    (bif Nat.blt pc 35 then (bif Nat.blt pc 31 then (bif Nat.beq pc 30 then some (.iload_n 2, 1, 2, 0, 0, mj_u) else none) else
      (bif Nat.blt pc 32 then (bif Nat.beq pc 31 then some (.aload_n 0, 1, 0, 0, 0, mj_u) else none) else
       (bif Nat.beq pc 32 then some (.getfield 60, 3, 6, 11, 143, .int 0) else none))) else
     (bif Nat.blt pc 38 then (bif Nat.beq pc 35 then some (.if_icmp .ge 20, 3, 55, 0, 0, mj_u) else none) else
      (bif Nat.blt pc 39 then (bif Nat.beq pc 38 then some (.aload_n 0, 1, 0, 0, 0, mj_u) else none) else
       (bif Nat.beq pc 39 then some (.aload_n 0, 1, 0, 0, 0, mj_u) else none)))))) else
  (bif Nat.blt pc 61 then (bif Nat.blt pc 49 then (bif Nat.blt pc 44 then (bif Nat.blt pc 43 then (bif Nat.beq pc 40 then some (.getfield 40, 3, 6, 10, 142, .null) else none) else
      (bif Nat.beq pc 43 then some (.iload_n 2, 1, 2, 0, 0, mj_u) else none)) else
     (bif Nat.blt pc 45 then (bif Nat.beq pc 44 then some (.iaload, 1, 0, 0, 0, mj_u) else none) else
      (bif Nat.blt pc 46 then (bif Nat.beq pc 45 then some (.iload_n 1, 1, 1, 0, 0, mj_u) else none) else
       (bif Nat.beq pc 46 then some (.invokevirtual 63, 3, 40, 0, 427, mj_u) else none)))) else
    (bif Nat.blt pc 56 then (bif Nat.blt pc 52 then (bif Nat.beq pc 49 then some (.iinc 2 1, 3, 2, 0, 0, .int 1) else none) else
      (bif Nat.blt pc 55 then (bif Nat.beq pc 52 then some (.goto (-22), 3, 30, 0, 0, mj_u) else none) else
       (bif Nat.beq pc 55 then some (.aload_n 0, 1, 0, 0, 0, mj_u) else none))) else
     (bif Nat.blt pc 59 then (bif Nat.beq pc 56 then some (.getfield 60, 3, 6, 11, 143, .int 0) else none) else
      (bif Nat.blt pc 60 then (bif Nat.beq pc 59 then some (.iconst 1, 1, 0, 0, 0, .int 1) else none) else
       (bif Nat.beq pc 60 then some (.isub, 1, 0, 0, 0, mj_u) else none))))) else
   (bif Nat.blt pc 71 then (bif Nat.blt pc 66 then (bif Nat.blt pc 62 then (bif Nat.beq pc 61 then some (.istore_n 2, 1, 2, 0, 0, mj_u) else none) else
      (bif Nat.blt pc 63 then (bif Nat.beq pc 62 then some (.iload_n 2, 1, 2, 0, 0, mj_u) else none) else
       (bif Nat.beq pc 63 then some (.ifCond .lt 19, 3, 82, 0, 0, mj_u) else none))) else
     (bif Nat.blt pc 67 then (bif Nat.beq pc 66 then some (.aload_n 0, 1, 0, 0, 0, mj_u) else none) else
      (bif Nat.blt pc 68 then (bif Nat.beq pc 67 then some (.aload_n 0, 1, 0, 0, 0, mj_u) else none) else
       (bif Nat.beq pc 68 then some (.getfield 40, 3, 6, 10, 142, .null) else none)))) else
    (bif Nat.blt pc 76 then (bif Nat.blt pc 72 then (bif Nat.beq pc 71 then some (.iload_n 2, 1, 2, 0, 0, mj_u) else none) else
      (bif Nat.blt pc 73 then (bif Nat.beq pc 72 then some (.iaload, 1, 0, 0, 0, mj_u) else none) else
       (bif Nat.beq pc 73 then some (.invokevirtual 67, 3, 41, 0, 432, mj_u) else none))) else
     (bif Nat.blt pc 79 then (bif Nat.beq pc 76 then some (.iinc 2 (-1), 3, 2, 0, 0, .int (-1)) else none) else
      (bif Nat.blt pc 82 then (bif Nat.beq pc 79 then some (.goto (-17), 3, 62, 0, 0, mj_u) else none) else
       (bif Nat.beq pc 82 then some (.return_, 1, 0, 0, 0, mj_u) else none))))))
def m_Streams_run : mj_M := (35, prog_8_method_2_code, 3, (Option.none : Option Jvm.ClassFile.FieldType), 6, 1, 408, 406, 407, 47, 83, k_Streams_run)
/-- WatershedMap$Streams.chooseDirection(I)V -/
def k_Streams_chooseDirection : Nat → Option mj_I := fun pc =>
  bif Nat.blt pc 61 then (bif Nat.blt pc 31 then (bif Nat.blt pc 12 then (bif Nat.blt pc 6 then (bif Nat.blt pc 2 then (bif Nat.blt pc 1 then (bif Nat.beq pc 0 then some (.iconst 0, 1, 0, 0, 0, .int 0) else none) else
       (bif Nat.beq pc 1 then some (.istore_n 2, 1, 2, 0, 0, mj_u) else none)) else
      (bif Nat.blt pc 3 then (bif Nat.beq pc 2 then some (.aload_n 0, 1, 0, 0, 0, mj_u) else none) else
       (bif Nat.beq pc 3 then some (.getfield 9, 3, 6, 1, 128, .null) else none))) else
     (bif Nat.blt pc 8 then (bif Nat.blt pc 7 then (bif Nat.beq pc 6 then some (.iload_n 1, 1, 1, 0, 0, mj_u) else none) else
       (bif Nat.beq pc 7 then some (.aload_n 0, 1, 0, 0, 0, mj_u) else none)) else
      (bif Nat.blt pc 11 then (bif Nat.beq pc 8 then some (.getfield 43, 3, 6, 0, 127, .null) else none) else
       (bif Nat.beq pc 11 then some (.iload_n 1, 1, 1, 0, 0, mj_u) else none)))) else
    (bif Nat.blt pc 23 then (bif Nat.blt pc 18 then (bif Nat.blt pc 15 then (bif Nat.beq pc 12 then some (.invokevirtual 70, 3, 22, 0, 413, mj_u) else none) else
       (bif Nat.beq pc 15 then some (.ifCond .eq 8, 3, 23, 0, 0, mj_u) else none)) else
      (bif Nat.blt pc 20 then (bif Nat.beq pc 18 then some (.bipush 8, 2, 0, 0, 0, .int 8) else none) else
       (bif Nat.beq pc 20 then some (.goto 5, 3, 25, 0, 0, mj_u) else none))) else
     (bif Nat.blt pc 26 then (bif Nat.blt pc 25 then (bif Nat.beq pc 23 then some (.bipush 9, 2, 0, 0, 0, .int 9) else none) else
       (bif Nat.beq pc 25 then some (.iastore, 1, 0, 0, 0, mj_u) else none)) else
      (bif Nat.blt pc 27 then (bif Nat.beq pc 26 then some (.aload_n 0, 1, 0, 0, 0, mj_u) else none) else
       (bif Nat.blt pc 30 then (bif Nat.beq pc 27 then some (.getfield 15, 3, 6, 2, 129, .null) else none) else
        (bif Nat.beq pc 30 then some (.iload_n 1, 1, 1, 0, 0, mj_u) else none)))))) else
   (bif Nat.blt pc 42 then (bif Nat.blt pc 35 then (bif Nat.blt pc 33 then (bif Nat.blt pc 32 then (bif Nat.beq pc 31 then some (.iconst (-1), 1, 0, 0, 0, .int (-1)) else none) else
       (bif Nat.beq pc 32 then some (.iastore, 1, 0, 0, 0, mj_u) else none)) else
      (bif Nat.blt pc 34 then (bif Nat.beq pc 33 then some (.iconst 0, 1, 0, 0, 0, .int 0) else none) else
       (bif Nat.beq pc 34 then some (.istore_n 3, 1, 3, 0, 0, mj_u) else none))) else
     (bif Nat.blt pc 38 then (bif Nat.blt pc 36 then (bif Nat.beq pc 35 then some (.iload_n 3, 1, 3, 0, 0, mj_u) else none) else
       (bif Nat.beq pc 36 then some (.bipush 8, 2, 0, 0, 0, .int 8) else none)) else
      (bif Nat.blt pc 41 then (bif Nat.beq pc 38 then some (.if_icmp .ge 86, 3, 124, 0, 0, mj_u) else none) else
       (bif Nat.beq pc 41 then some (.aload_n 0, 1, 0, 0, 0, mj_u) else none)))) else
    (bif Nat.blt pc 50 then (bif Nat.blt pc 46 then (bif Nat.blt pc 45 then (bif Nat.beq pc 42 then some (.getfield 43, 3, 6, 0, 127, .null) else none) else
       (bif Nat.beq pc 45 then some (.iload_n 1, 1, 1, 0, 0, mj_u) else none)) else
      (bif Nat.blt pc 47 then (bif Nat.beq pc 46 then some (.iload_n 3, 1, 3, 0, 0, mj_u) else none) else
       (bif Nat.beq pc 47 then some (.invokevirtual 74, 3, 16, 0, 414, mj_u) else none))) else
     (bif Nat.blt pc 54 then (bif Nat.blt pc 52 then (bif Nat.beq pc 50 then some (.istore 4, 2, 4, 0, 0, mj_u) else none) else
       (bif Nat.beq pc 52 then some (.iload 4, 2, 4, 0, 0, mj_u) else none)) else
      (bif Nat.blt pc 57 then (bif Nat.beq pc 54 then some (.ifCond .lt 64, 3, 118, 0, 0, mj_u) else none) else
       (bif Nat.blt pc 58 then (bif Nat.beq pc 57 then some (.aload_n 0, 1, 0, 0, 0, mj_u) else none) else
        (bif Nat.beq pc 58 then some (.getfield 43, 3, 6, 0, 127, .null) else none))))))) else
  (bif Nat.blt pc 94 then (bif Nat.blt pc 76 then (bif Nat.blt pc 67 then (bif Nat.blt pc 65 then (bif Nat.blt pc 64 then (bif Nat.beq pc 61 then some (.getfield 78, 3, 4, 0, 91, .null) else none) else
       (bif Nat.beq pc 64 then some (.iload_n 1, 1, 1, 0, 0, mj_u) else none)) else
      (bif Nat.blt pc 66 then (bif Nat.beq pc 65 then some (.iaload, 1, 0, 0, 0, mj_u) else none) else
       (bif Nat.beq pc 66 then some (.aload_n 0, 1, 0, 0, 0, mj_u) else none))) else
     (bif Nat.blt pc 73 then (bif Nat.blt pc 70 then (bif Nat.beq pc 67 then some (.getfield 43, 3, 6, 0, 127, .null) else none) else
       (bif Nat.beq pc 70 then some (.getfield 78, 3, 4, 0, 91, .null) else none)) else
      (bif Nat.blt pc 75 then (bif Nat.beq pc 73 then some (.iload 4, 2, 4, 0, 0, mj_u) else none) else
       (bif Nat.beq pc 75 then some (.iaload, 1, 0, 0, 0, mj_u) else none)))) else
    (bif Nat.blt pc 84 then (bif Nat.blt pc 78 then (bif Nat.blt pc 77 then (bif Nat.beq pc 76 then some (.isub, 1, 0, 0, 0, mj_u) else none) else
       (bif Nat.beq pc 77 then some (.iload_n 3, 1, 3, 0, 0, mj_u) else none)) else
      (bif Nat.blt pc 81 then (bif Nat.beq pc 78 then some (.invokestatic 81, 3, 37, 0, 415, mj_u) else none) else
       (bif Nat.beq pc 81 then some (.ifCond .eq 8, 3, 89, 0, 0, mj_u) else none))) else
     (bif Nat.blt pc 89 then (bif Nat.blt pc 86 then (bif Nat.beq pc 84 then some (.bipush 7, 2, 0, 0, 0, .int 7) else none) else
       (bif Nat.beq pc 86 then some (.goto 5, 3, 91, 0, 0, mj_u) else none)) else
      (bif Nat.blt pc 91 then (bif Nat.beq pc 89 then some (.bipush 10, 2, 0, 0, 0, .int 10) else none) else
       (bif Nat.blt pc 92 then (bif Nat.beq pc 91 then some (.imul, 1, 0, 0, 0, mj_u) else none) else
        (bif Nat.beq pc 92 then some (.istore 5, 2, 5, 0, 0, mj_u) else none)))))) else
   (bif Nat.blt pc 109 then (bif Nat.blt pc 102 then (bif Nat.blt pc 97 then (bif Nat.blt pc 96 then (bif Nat.beq pc 94 then some (.iload 5, 2, 5, 0, 0, mj_u) else none) else
       (bif Nat.beq pc 96 then some (.iload_n 2, 1, 2, 0, 0, mj_u) else none)) else
      (bif Nat.blt pc 100 then (bif Nat.beq pc 97 then some (.if_icmp .le 21, 3, 118, 0, 0, mj_u) else none) else
       (bif Nat.beq pc 100 then some (.iload 5, 2, 5, 0, 0, mj_u) else none))) else
     (bif Nat.blt pc 104 then (bif Nat.blt pc 103 then (bif Nat.beq pc 102 then some (.istore_n 2, 1, 2, 0, 0, mj_u) else none) else
       (bif Nat.beq pc 103 then some (.aload_n 0, 1, 0, 0, 0, mj_u) else none)) else
      (bif Nat.blt pc 107 then (bif Nat.beq pc 104 then some (.getfield 9, 3, 6, 1, 128, .null) else none) else
       (bif Nat.blt pc 108 then (bif Nat.beq pc 107 then some (.iload_n 1, 1, 1, 0, 0, mj_u) else none) else
        (bif Nat.beq pc 108 then some (.iload_n 3, 1, 3, 0, 0, mj_u) else none))))) else
    (bif Nat.blt pc 115 then (bif Nat.blt pc 111 then (bif Nat.blt pc 110 then (bif Nat.beq pc 109 then some (.iastore, 1, 0, 0, 0, mj_u) else none) else
       (bif Nat.beq pc 110 then some (.aload_n 0, 1, 0, 0, 0, mj_u) else none)) else
      (bif Nat.blt pc 114 then (bif Nat.beq pc 111 then some (.getfield 15, 3, 6, 2, 129, .null) else none) else
       (bif Nat.beq pc 114 then some (.iload_n 1, 1, 1, 0, 0, mj_u) else none))) else
     (bif Nat.blt pc 118 then (bif Nat.blt pc 117 then (bif Nat.beq pc 115 then some (.iload 4, 2, 4, 0, 0, mj_u) else none) else
       (bif Nat.beq pc 117 then some (.iastore, 1, 0, 0, 0, mj_u) else none)) else
      (bif Nat.blt pc 121 then (bif Nat.beq pc 118 then some (.iinc 3 1, 3, 3, 0, 0, .int 1) else none) else
       (bif Nat.blt pc 124 then (bif Nat.beq pc 121 then some (.goto (-86), 3, 35, 0, 0, mj_u) else none) else
        (bif Nat.beq pc 124 then some (.return_, 1, 0, 0, 0, mj_u) else none)))))))
def m_Streams_chooseDirection : mj_M := (36, prog_8_method_3_code, 6, (Option.none : Option Jvm.ClassFile.FieldType), 6, 1, 412, 411, 6, 47, 125, k_Streams_chooseDirection)
/-- WatershedMap$Land.slanted(I)Z static -/
def k_Land_slanted : Nat → Option mj_I := fun pc =>
  bif Nat.blt pc 4 then (bif Nat.blt pc 2 then (bif Nat.blt pc 1 then (bif Nat.beq pc 0 then some (.iload_n 0, 1, 0, 0, 0, mj_u) else none) else
    (bif Nat.beq pc 1 then some (.iconst 2, 1, 0, 0, 0, .int 2) else none)) else
   (bif Nat.blt pc 3 then (bif Nat.beq pc 2 then some (.irem, 1, 0, 0, 0, mj_u) else none) else
    (bif Nat.beq pc 3 then some (.iconst 1, 1, 0, 0, 0, .int 1) else none))) else
  (bif Nat.blt pc 8 then (bif Nat.blt pc 7 then (bif Nat.beq pc 4 then some (.if_icmp .ne 7, 3, 11, 0, 0, mj_u) else none) else
    (bif Nat.beq pc 7 then some (.iconst 1, 1, 0, 0, 0, .int 1) else none)) else
   (bif Nat.blt pc 11 then (bif Nat.beq pc 8 then some (.goto 4, 3, 12, 0, 0, mj_u) else none) else
    (bif Nat.blt pc 12 then (bif Nat.beq pc 11 then some (.iconst 0, 1, 0, 0, 0, .int 0) else none) else
     (bif Nat.beq pc 12 then some (.ireturn, 1, 0, 0, 0, mj_u) else none))))
def m_Land_slanted : mj_M := (37, prog_6_method_8_code, 1, (Option.some Jvm.ClassFile.FieldType.boolean), 4, 1, 417, 416, 0, 46, 13, k_Land_slanted)
/-- WatershedMap$Streams.putInOrder()V -/
def k_Streams_putInOrder : Nat → Option mj_I := fun pc =>
  bif Nat.blt pc 75 then (bif Nat.blt pc 39 then (bif Nat.blt pc 18 then (bif Nat.blt pc 9 then (bif Nat.blt pc 4 then (bif Nat.blt pc 1 then (bif Nat.beq pc 0 then some (.aload_n 0, 1, 0, 0, 0, mj_u) else none) else
       (bif Nat.beq pc 1 then some (.getfield 33, 3, 6, 8, 140, .null) else none)) else
      (bif Nat.blt pc 5 then (bif Nat.beq pc 4 then some (.iconst 0, 1, 0, 0, 0, .int 0) else none) else
       (bif Nat.blt pc 8 then (bif Nat.beq pc 5 then some (.invokestatic 84, 3, 10, 0, 422, mj_u) else none) else
        (bif Nat.beq pc 8 then some (.iconst 0, 1, 0, 0, 0, .int 0) else none)))) else
     (bif Nat.blt pc 11 then (bif Nat.blt pc 10 then (bif Nat.beq pc 9 then some (.istore_n 1, 1, 1, 0, 0, mj_u) else none) else
       (bif Nat.beq pc 10 then some (.iload_n 1, 1, 1, 0, 0, mj_u) else none)) else
      (bif Nat.blt pc 12 then (bif Nat.beq pc 11 then some (.aload_n 0, 1, 0, 0, 0, mj_u) else none) else
       (bif Nat.blt pc 15 then (bif Nat.beq pc 12 then some (.getfield 43, 3, 6, 0, 127, .null) else none) else
        (bif Nat.beq pc 15 then some (.getfield 47, 3, 4, 5, 102, .int 0) else none))))) else
    (bif Nat.blt pc 27 then (bif Nat.blt pc 22 then (bif Nat.blt pc 21 then (bif Nat.beq pc 18 then some (.if_icmp .ge 33, 3, 51, 0, 0, mj_u) else none) else
       (bif Nat.beq pc 21 then some (.aload_n 0, 1, 0, 0, 0, mj_u) else none)) else
      (bif Nat.blt pc 25 then (bif Nat.beq pc 22 then some (.getfield 15, 3, 6, 2, 129, .null) else none) else
       (bif Nat.blt pc 26 then (bif Nat.beq pc 25 then some (.iload_n 1, 1, 1, 0, 0, mj_u) else none) else
        (bif Nat.beq pc 26 then some (.iaload, 1, 0, 0, 0, mj_u) else none)))) else
     (bif Nat.blt pc 34 then (bif Nat.blt pc 30 then (bif Nat.beq pc 27 then some (.ifCond .lt 18, 3, 45, 0, 0, mj_u) else none) else
       (bif Nat.blt pc 31 then (bif Nat.beq pc 30 then some (.aload_n 0, 1, 0, 0, 0, mj_u) else none) else
        (bif Nat.beq pc 31 then some (.getfield 33, 3, 6, 8, 140, .null) else none))) else
      (bif Nat.blt pc 35 then (bif Nat.beq pc 34 then some (.aload_n 0, 1, 0, 0, 0, mj_u) else none) else
       (bif Nat.blt pc 38 then (bif Nat.beq pc 35 then some (.getfield 15, 3, 6, 2, 129, .null) else none) else
        (bif Nat.beq pc 38 then some (.iload_n 1, 1, 1, 0, 0, mj_u) else none)))))) else
   (bif Nat.blt pc 56 then (bif Nat.blt pc 44 then (bif Nat.blt pc 41 then (bif Nat.blt pc 40 then (bif Nat.beq pc 39 then some (.iaload, 1, 0, 0, 0, mj_u) else none) else
       (bif Nat.beq pc 40 then some (.dup2, 1, 0, 0, 0, mj_u) else none)) else
      (bif Nat.blt pc 42 then (bif Nat.beq pc 41 then some (.iaload, 1, 0, 0, 0, mj_u) else none) else
       (bif Nat.blt pc 43 then (bif Nat.beq pc 42 then some (.iconst 1, 1, 0, 0, 0, .int 1) else none) else
        (bif Nat.beq pc 43 then some (.iadd, 1, 0, 0, 0, mj_u) else none)))) else
     (bif Nat.blt pc 51 then (bif Nat.blt pc 45 then (bif Nat.beq pc 44 then some (.iastore, 1, 0, 0, 0, mj_u) else none) else
       (bif Nat.blt pc 48 then (bif Nat.beq pc 45 then some (.iinc 1 1, 3, 1, 0, 0, .int 1) else none) else
        (bif Nat.beq pc 48 then some (.goto (-38), 3, 10, 0, 0, mj_u) else none))) else
      (bif Nat.blt pc 52 then (bif Nat.beq pc 51 then some (.aload_n 0, 1, 0, 0, 0, mj_u) else none) else
       (bif Nat.blt pc 53 then (bif Nat.beq pc 52 then some (.iconst 0, 1, 0, 0, 0, .int 0) else none) else
        (bif Nat.beq pc 53 then some (.putfield 60, 3, 6, 11, 143, .int 0) else none))))) else
    (bif Nat.blt pc 63 then (bif Nat.blt pc 58 then (bif Nat.blt pc 57 then (bif Nat.beq pc 56 then some (.iconst 0, 1, 0, 0, 0, .int 0) else none) else
       (bif Nat.beq pc 57 then some (.istore_n 1, 1, 1, 0, 0, mj_u) else none)) else
      (bif Nat.blt pc 59 then (bif Nat.beq pc 58 then some (.iload_n 1, 1, 1, 0, 0, mj_u) else none) else
       (bif Nat.blt pc 60 then (bif Nat.beq pc 59 then some (.aload_n 0, 1, 0, 0, 0, mj_u) else none) else
        (bif Nat.beq pc 60 then some (.getfield 43, 3, 6, 0, 127, .null) else none)))) else
     (bif Nat.blt pc 70 then (bif Nat.blt pc 66 then (bif Nat.beq pc 63 then some (.getfield 47, 3, 4, 5, 102, .int 0) else none) else
       (bif Nat.blt pc 69 then (bif Nat.beq pc 66 then some (.if_icmp .ge 23, 3, 89, 0, 0, mj_u) else none) else
        (bif Nat.beq pc 69 then some (.aload_n 0, 1, 0, 0, 0, mj_u) else none))) else
      (bif Nat.blt pc 73 then (bif Nat.beq pc 70 then some (.getfield 33, 3, 6, 8, 140, .null) else none) else
       (bif Nat.blt pc 74 then (bif Nat.beq pc 73 then some (.iload_n 1, 1, 1, 0, 0, mj_u) else none) else
        (bif Nat.beq pc 74 then some (.iaload, 1, 0, 0, 0, mj_u) else none))))))) else
  (bif Nat.blt pc 117 then (bif Nat.blt pc 96 then (bif Nat.blt pc 86 then (bif Nat.blt pc 79 then (bif Nat.blt pc 78 then (bif Nat.beq pc 75 then some (.ifCond .ne 8, 3, 83, 0, 0, mj_u) else none) else
       (bif Nat.beq pc 78 then some (.aload_n 0, 1, 0, 0, 0, mj_u) else none)) else
      (bif Nat.blt pc 80 then (bif Nat.beq pc 79 then some (.iload_n 1, 1, 1, 0, 0, mj_u) else none) else
       (bif Nat.blt pc 83 then (bif Nat.beq pc 80 then some (.invokevirtual 90, 3, 39, 0, 423, mj_u) else none) else
        (bif Nat.beq pc 83 then some (.iinc 1 1, 3, 1, 0, 0, .int 1) else none)))) else
     (bif Nat.blt pc 91 then (bif Nat.blt pc 89 then (bif Nat.beq pc 86 then some (.goto (-28), 3, 58, 0, 0, mj_u) else none) else
       (bif Nat.blt pc 90 then (bif Nat.beq pc 89 then some (.iconst 0, 1, 0, 0, 0, .int 0) else none) else
        (bif Nat.beq pc 90 then some (.istore_n 1, 1, 1, 0, 0, mj_u) else none))) else
      (bif Nat.blt pc 92 then (bif Nat.beq pc 91 then some (.iload_n 1, 1, 1, 0, 0, mj_u) else none) else
       (bif Nat.blt pc 93 then (bif Nat.beq pc 92 then some (.aload_n 0, 1, 0, 0, 0, mj_u) else none) else
        (bif Nat.beq pc 93 then some (.getfield 60, 3, 6, 11, 143, .int 0) else none))))) else
    (bif Nat.blt pc 107 then (bif Nat.blt pc 100 then (bif Nat.blt pc 99 then (bif Nat.beq pc 96 then some (.if_icmp .ge 56, 3, 152, 0, 0, mj_u) else none) else
       (bif Nat.beq pc 99 then some (.iload_n 1, 1, 1, 0, 0, mj_u) else none)) else
      (bif Nat.blt pc 103 then (bif Nat.beq pc 100 then some (.sipush 256, 3, 0, 0, 0, .int 256) else none) else
       (bif Nat.blt pc 106 then (bif Nat.beq pc 103 then some (.if_icmp .ge 49, 3, 152, 0, 0, mj_u) else none) else
        (bif Nat.beq pc 106 then some (.aload_n 0, 1, 0, 0, 0, mj_u) else none)))) else
     (bif Nat.blt pc 114 then (bif Nat.blt pc 110 then (bif Nat.beq pc 107 then some (.getfield 15, 3, 6, 2, 129, .null) else none) else
       (bif Nat.blt pc 111 then (bif Nat.beq pc 110 then some (.aload_n 0, 1, 0, 0, 0, mj_u) else none) else
        (bif Nat.beq pc 111 then some (.getfield 40, 3, 6, 10, 142, .null) else none))) else
      (bif Nat.blt pc 115 then (bif Nat.beq pc 114 then some (.iload_n 1, 1, 1, 0, 0, mj_u) else none) else
       (bif Nat.blt pc 116 then (bif Nat.beq pc 115 then some (.iaload, 1, 0, 0, 0, mj_u) else none) else
        (bif Nat.beq pc 116 then some (.iaload, 1, 0, 0, 0, mj_u) else none)))))) else
   (bif Nat.blt pc 132 then (bif Nat.blt pc 126 then (bif Nat.blt pc 119 then (bif Nat.blt pc 118 then (bif Nat.beq pc 117 then some (.istore_n 2, 1, 2, 0, 0, mj_u) else none) else
       (bif Nat.beq pc 118 then some (.iload_n 2, 1, 2, 0, 0, mj_u) else none)) else
      (bif Nat.blt pc 122 then (bif Nat.beq pc 119 then some (.ifCond .lt 27, 3, 146, 0, 0, mj_u) else none) else
       (bif Nat.blt pc 123 then (bif Nat.beq pc 122 then some (.aload_n 0, 1, 0, 0, 0, mj_u) else none) else
        (bif Nat.beq pc 123 then some (.getfield 33, 3, 6, 8, 140, .null) else none)))) else
     (bif Nat.blt pc 129 then (bif Nat.blt pc 127 then (bif Nat.beq pc 126 then some (.iload_n 2, 1, 2, 0, 0, mj_u) else none) else
       (bif Nat.blt pc 128 then (bif Nat.beq pc 127 then some (.dup2, 1, 0, 0, 0, mj_u) else none) else
        (bif Nat.beq pc 128 then some (.iaload, 1, 0, 0, 0, mj_u) else none))) else
      (bif Nat.blt pc 130 then (bif Nat.beq pc 129 then some (.iconst 1, 1, 0, 0, 0, .int 1) else none) else
       (bif Nat.blt pc 131 then (bif Nat.beq pc 130 then some (.isub, 1, 0, 0, 0, mj_u) else none) else
        (bif Nat.beq pc 131 then some (.iastore, 1, 0, 0, 0, mj_u) else none))))) else
    (bif Nat.blt pc 141 then (bif Nat.blt pc 136 then (bif Nat.blt pc 133 then (bif Nat.beq pc 132 then some (.aload_n 0, 1, 0, 0, 0, mj_u) else none) else
       (bif Nat.beq pc 133 then some (.getfield 33, 3, 6, 8, 140, .null) else none)) else
      (bif Nat.blt pc 137 then (bif Nat.beq pc 136 then some (.iload_n 2, 1, 2, 0, 0, mj_u) else none) else
       (bif Nat.blt pc 138 then (bif Nat.beq pc 137 then some (.iaload, 1, 0, 0, 0, mj_u) else none) else
        (bif Nat.beq pc 138 then some (.ifCond .ne 8, 3, 146, 0, 0, mj_u) else none)))) else
     (bif Nat.blt pc 146 then (bif Nat.blt pc 142 then (bif Nat.beq pc 141 then some (.aload_n 0, 1, 0, 0, 0, mj_u) else none) else
       (bif Nat.blt pc 143 then (bif Nat.beq pc 142 then some (.iload_n 2, 1, 2, 0, 0, mj_u) else none) else
        (bif Nat.beq pc 143 then some (.invokevirtual 90, 3, 39, 0, 423, mj_u) else none))) else
      (bif Nat.blt pc 149 then (bif Nat.beq pc 146 then some (.iinc 1 1, 3, 1, 0, 0, .int 1) else none) else
       (bif Nat.blt pc 152 then (bif Nat.beq pc 149 then some (.goto (-58), 3, 91, 0, 0, mj_u) else none) else
        (bif Nat.beq pc 152 then some (.return_, 1, 0, 0, 0, mj_u) else none)))))))
def m_Streams_putInOrder : mj_M := (38, prog_8_method_4_code, 3, (Option.none : Option Jvm.ClassFile.FieldType), 6, 0, 421, 420, 7, 47, 153, k_Streams_putInOrder)
/-- WatershedMap$Streams.putNext(I)V -/
def k_Streams_putNext : Nat → Option mj_I := fun pc =>
  bif Nat.blt pc 34 then (bif Nat.blt pc 19 then (bif Nat.blt pc 10 then (bif Nat.blt pc 4 then (bif Nat.blt pc 1 then (bif Nat.beq pc 0 then some (.aload_n 0, 1, 0, 0, 0, mj_u) else none) else
      (bif Nat.beq pc 1 then some (.getfield 60, 3, 6, 11, 143, .int 0) else none)) else
     (bif Nat.blt pc 7 then (bif Nat.beq pc 4 then some (.sipush 256, 3, 0, 0, 0, .int 256) else none) else
      (bif Nat.beq pc 7 then some (.if_icmp .ge 51, 3, 58, 0, 0, mj_u) else none))) else
    (bif Nat.blt pc 14 then (bif Nat.blt pc 11 then (bif Nat.beq pc 10 then some (.aload_n 0, 1, 0, 0, 0, mj_u) else none) else
      (bif Nat.beq pc 11 then some (.getfield 40, 3, 6, 10, 142, .null) else none)) else
     (bif Nat.blt pc 15 then (bif Nat.beq pc 14 then some (.aload_n 0, 1, 0, 0, 0, mj_u) else none) else
      (bif Nat.blt pc 18 then (bif Nat.beq pc 15 then some (.getfield 60, 3, 6, 11, 143, .int 0) else none) else
       (bif Nat.beq pc 18 then some (.iload_n 1, 1, 1, 0, 0, mj_u) else none))))) else
   (bif Nat.blt pc 25 then (bif Nat.blt pc 21 then (bif Nat.blt pc 20 then (bif Nat.beq pc 19 then some (.iastore, 1, 0, 0, 0, mj_u) else none) else
      (bif Nat.beq pc 20 then some (.aload_n 0, 1, 0, 0, 0, mj_u) else none)) else
     (bif Nat.blt pc 22 then (bif Nat.beq pc 21 then some (.dup, 1, 0, 0, 0, mj_u) else none) else
      (bif Nat.beq pc 22 then some (.getfield 60, 3, 6, 11, 143, .int 0) else none))) else
    (bif Nat.blt pc 27 then (bif Nat.blt pc 26 then (bif Nat.beq pc 25 then some (.iconst 1, 1, 0, 0, 0, .int 1) else none) else
      (bif Nat.beq pc 26 then some (.iadd, 1, 0, 0, 0, mj_u) else none)) else
     (bif Nat.blt pc 30 then (bif Nat.beq pc 27 then some (.putfield 60, 3, 6, 11, 143, .int 0) else none) else
      (bif Nat.blt pc 31 then (bif Nat.beq pc 30 then some (.aload_n 0, 1, 0, 0, 0, mj_u) else none) else
       (bif Nat.beq pc 31 then some (.getfield 18, 3, 6, 3, 131, .null) else none)))))) else
  (bif Nat.blt pc 45 then (bif Nat.blt pc 38 then (bif Nat.blt pc 36 then (bif Nat.blt pc 35 then (bif Nat.beq pc 34 then some (.iload_n 1, 1, 1, 0, 0, mj_u) else none) else
      (bif Nat.beq pc 35 then some (.iconst 1, 1, 0, 0, 0, .int 1) else none)) else
     (bif Nat.blt pc 37 then (bif Nat.beq pc 36 then some (.iastore, 1, 0, 0, 0, mj_u) else none) else
      (bif Nat.beq pc 37 then some (.aload_n 0, 1, 0, 0, 0, mj_u) else none))) else
    (bif Nat.blt pc 42 then (bif Nat.blt pc 41 then (bif Nat.beq pc 38 then some (.getfield 27, 3, 6, 6, 136, .null) else none) else
      (bif Nat.beq pc 41 then some (.iload_n 1, 1, 1, 0, 0, mj_u) else none)) else
     (bif Nat.blt pc 43 then (bif Nat.beq pc 42 then some (.iconst 0, 1, 0, 0, 0, .int 0) else none) else
      (bif Nat.blt pc 44 then (bif Nat.beq pc 43 then some (.iastore, 1, 0, 0, 0, mj_u) else none) else
       (bif Nat.beq pc 44 then some (.aload_n 0, 1, 0, 0, 0, mj_u) else none))))) else
   (bif Nat.blt pc 52 then (bif Nat.blt pc 49 then (bif Nat.blt pc 48 then (bif Nat.beq pc 45 then some (.getfield 30, 3, 6, 7, 138, .null) else none) else
      (bif Nat.beq pc 48 then some (.iload_n 1, 1, 1, 0, 0, mj_u) else none)) else
     (bif Nat.blt pc 50 then (bif Nat.beq pc 49 then some (.iconst 0, 1, 0, 0, 0, .int 0) else none) else
      (bif Nat.blt pc 51 then (bif Nat.beq pc 50 then some (.iastore, 1, 0, 0, 0, mj_u) else none) else
       (bif Nat.beq pc 51 then some (.aload_n 0, 1, 0, 0, 0, mj_u) else none)))) else
    (bif Nat.blt pc 56 then (bif Nat.blt pc 55 then (bif Nat.beq pc 52 then some (.getfield 36, 3, 6, 9, 141, .null) else none) else
      (bif Nat.beq pc 55 then some (.iload_n 1, 1, 1, 0, 0, mj_u) else none)) else
     (bif Nat.blt pc 57 then (bif Nat.beq pc 56 then some (.iconst 0, 1, 0, 0, 0, .int 0) else none) else
      (bif Nat.blt pc 58 then (bif Nat.beq pc 57 then some (.bastore, 1, 0, 0, 0, mj_u) else none) else
       (bif Nat.beq pc 58 then some (.return_, 1, 0, 0, 0, mj_u) else none))))))
def m_Streams_putNext : mj_M := (39, prog_8_method_5_code, 2, (Option.none : Option Jvm.ClassFile.FieldType), 6, 1, 426, 425, 8, 47, 59, k_Streams_putNext)
/-- WatershedMap$Streams.passDown(II)V -/
def k_Streams_passDown : Nat → Option mj_I := fun pc =>
  bif Nat.blt pc 87 then (bif Nat.blt pc 46 then (bif Nat.blt pc 24 then (bif Nat.blt pc 11 then (bif Nat.blt pc 5 then (bif Nat.blt pc 1 then (bif Nat.beq pc 0 then some (.aload_n 0, 1, 0, 0, 0, mj_u) else none) else
       (bif Nat.blt pc 4 then (bif Nat.beq pc 1 then some (.getfield 18, 3, 6, 3, 131, .null) else none) else
        (bif Nat.beq pc 4 then some (.iload_n 1, 1, 1, 0, 0, mj_u) else none))) else
      (bif Nat.blt pc 7 then (bif Nat.blt pc 6 then (bif Nat.beq pc 5 then some (.iaload, 1, 0, 0, 0, mj_u) else none) else
        (bif Nat.beq pc 6 then some (.iload_n 2, 1, 2, 0, 0, mj_u) else none)) else
       (bif Nat.blt pc 10 then (bif Nat.beq pc 7 then some (.if_icmp .lt 55, 3, 62, 0, 0, mj_u) else none) else
        (bif Nat.beq pc 10 then some (.aload_n 0, 1, 0, 0, 0, mj_u) else none)))) else
     (bif Nat.blt pc 16 then (bif Nat.blt pc 14 then (bif Nat.beq pc 11 then some (.getfield 36, 3, 6, 9, 141, .null) else none) else
       (bif Nat.blt pc 15 then (bif Nat.beq pc 14 then some (.iload_n 1, 1, 1, 0, 0, mj_u) else none) else
        (bif Nat.beq pc 15 then some (.baload, 1, 0, 0, 0, mj_u) else none))) else
      (bif Nat.blt pc 20 then (bif Nat.blt pc 19 then (bif Nat.beq pc 16 then some (.ifCond .ne 12, 3, 28, 0, 0, mj_u) else none) else
        (bif Nat.beq pc 19 then some (.aload_n 0, 1, 0, 0, 0, mj_u) else none)) else
       (bif Nat.blt pc 23 then (bif Nat.beq pc 20 then some (.getfield 27, 3, 6, 6, 136, .null) else none) else
        (bif Nat.beq pc 23 then some (.iload_n 1, 1, 1, 0, 0, mj_u) else none))))) else
    (bif Nat.blt pc 35 then (bif Nat.blt pc 29 then (bif Nat.blt pc 25 then (bif Nat.beq pc 24 then some (.iaload, 1, 0, 0, 0, mj_u) else none) else
       (bif Nat.blt pc 28 then (bif Nat.beq pc 25 then some (.ifCond .ne 7, 3, 32, 0, 0, mj_u) else none) else
        (bif Nat.beq pc 28 then some (.iconst 1, 1, 0, 0, 0, .int 1) else none))) else
      (bif Nat.blt pc 33 then (bif Nat.blt pc 32 then (bif Nat.beq pc 29 then some (.goto 4, 3, 33, 0, 0, mj_u) else none) else
        (bif Nat.beq pc 32 then some (.iconst 0, 1, 0, 0, 0, .int 0) else none)) else
       (bif Nat.blt pc 34 then (bif Nat.beq pc 33 then some (.istore_n 3, 1, 3, 0, 0, mj_u) else none) else
        (bif Nat.beq pc 34 then some (.aload_n 0, 1, 0, 0, 0, mj_u) else none)))) else
     (bif Nat.blt pc 40 then (bif Nat.blt pc 38 then (bif Nat.beq pc 35 then some (.getfield 27, 3, 6, 6, 136, .null) else none) else
       (bif Nat.blt pc 39 then (bif Nat.beq pc 38 then some (.iload_n 1, 1, 1, 0, 0, mj_u) else none) else
        (bif Nat.beq pc 39 then some (.dup2, 1, 0, 0, 0, mj_u) else none))) else
      (bif Nat.blt pc 42 then (bif Nat.blt pc 41 then (bif Nat.beq pc 40 then some (.iaload, 1, 0, 0, 0, mj_u) else none) else
        (bif Nat.beq pc 41 then some (.iload_n 3, 1, 3, 0, 0, mj_u) else none)) else
       (bif Nat.blt pc 45 then (bif Nat.beq pc 42 then some (.ifCond .eq 7, 3, 49, 0, 0, mj_u) else none) else
        (bif Nat.beq pc 45 then some (.iconst 1, 1, 0, 0, 0, .int 1) else none)))))) else
   (bif Nat.blt pc 66 then (bif Nat.blt pc 57 then (bif Nat.blt pc 51 then (bif Nat.blt pc 49 then (bif Nat.beq pc 46 then some (.goto 4, 3, 50, 0, 0, mj_u) else none) else
       (bif Nat.blt pc 50 then (bif Nat.beq pc 49 then some (.iconst 0, 1, 0, 0, 0, .int 0) else none) else
        (bif Nat.beq pc 50 then some (.iadd, 1, 0, 0, 0, mj_u) else none))) else
      (bif Nat.blt pc 53 then (bif Nat.blt pc 52 then (bif Nat.beq pc 51 then some (.iastore, 1, 0, 0, 0, mj_u) else none) else
        (bif Nat.beq pc 52 then some (.aload_n 0, 1, 0, 0, 0, mj_u) else none)) else
       (bif Nat.blt pc 56 then (bif Nat.beq pc 53 then some (.getfield 30, 3, 6, 7, 138, .null) else none) else
        (bif Nat.beq pc 56 then some (.iload_n 1, 1, 1, 0, 0, mj_u) else none)))) else
     (bif Nat.blt pc 60 then (bif Nat.blt pc 58 then (bif Nat.beq pc 57 then some (.dup2, 1, 0, 0, 0, mj_u) else none) else
       (bif Nat.blt pc 59 then (bif Nat.beq pc 58 then some (.iaload, 1, 0, 0, 0, mj_u) else none) else
        (bif Nat.beq pc 59 then some (.iconst 1, 1, 0, 0, 0, .int 1) else none))) else
      (bif Nat.blt pc 62 then (bif Nat.blt pc 61 then (bif Nat.beq pc 60 then some (.iadd, 1, 0, 0, 0, mj_u) else none) else
        (bif Nat.beq pc 61 then some (.iastore, 1, 0, 0, 0, mj_u) else none)) else
       (bif Nat.blt pc 63 then (bif Nat.beq pc 62 then some (.aload_n 0, 1, 0, 0, 0, mj_u) else none) else
        (bif Nat.beq pc 63 then some (.getfield 15, 3, 6, 2, 129, .null) else none))))) else
    (bif Nat.blt pc 77 then (bif Nat.blt pc 69 then (bif Nat.blt pc 67 then (bif Nat.beq pc 66 then some (.iload_n 1, 1, 1, 0, 0, mj_u) else none) else
       (bif Nat.blt pc 68 then (bif Nat.beq pc 67 then some (.iaload, 1, 0, 0, 0, mj_u) else none) else
        (bif Nat.beq pc 68 then some (.istore_n 3, 1, 3, 0, 0, mj_u) else none))) else
      (bif Nat.blt pc 73 then (bif Nat.blt pc 70 then (bif Nat.beq pc 69 then some (.iload_n 3, 1, 3, 0, 0, mj_u) else none) else
        (bif Nat.beq pc 70 then some (.ifCond .lt 110, 3, 180, 0, 0, mj_u) else none)) else
       (bif Nat.blt pc 74 then (bif Nat.beq pc 73 then some (.aload_n 0, 1, 0, 0, 0, mj_u) else none) else
        (bif Nat.beq pc 74 then some (.getfield 18, 3, 6, 3, 131, .null) else none)))) else
     (bif Nat.blt pc 81 then (bif Nat.blt pc 79 then (bif Nat.blt pc 78 then (bif Nat.beq pc 77 then some (.iload_n 3, 1, 3, 0, 0, mj_u) else none) else
        (bif Nat.beq pc 78 then some (.dup2, 1, 0, 0, 0, mj_u) else none)) else
       (bif Nat.blt pc 80 then (bif Nat.beq pc 79 then some (.iaload, 1, 0, 0, 0, mj_u) else none) else
        (bif Nat.beq pc 80 then some (.aload_n 0, 1, 0, 0, 0, mj_u) else none))) else
      (bif Nat.blt pc 85 then (bif Nat.blt pc 84 then (bif Nat.beq pc 81 then some (.getfield 18, 3, 6, 3, 131, .null) else none) else
        (bif Nat.beq pc 84 then some (.iload_n 1, 1, 1, 0, 0, mj_u) else none)) else
       (bif Nat.blt pc 86 then (bif Nat.beq pc 85 then some (.iaload, 1, 0, 0, 0, mj_u) else none) else
        (bif Nat.beq pc 86 then some (.iadd, 1, 0, 0, 0, mj_u) else none))))))) else
  (bif Nat.blt pc 134 then (bif Nat.blt pc 109 then (bif Nat.blt pc 98 then (bif Nat.blt pc 92 then (bif Nat.blt pc 88 then (bif Nat.beq pc 87 then some (.iastore, 1, 0, 0, 0, mj_u) else none) else
       (bif Nat.blt pc 89 then (bif Nat.beq pc 88 then some (.aload_n 0, 1, 0, 0, 0, mj_u) else none) else
        (bif Nat.beq pc 89 then some (.getfield 30, 3, 6, 7, 138, .null) else none))) else
      (bif Nat.blt pc 94 then (bif Nat.blt pc 93 then (bif Nat.beq pc 92 then some (.iload_n 3, 1, 3, 0, 0, mj_u) else none) else
        (bif Nat.beq pc 93 then some (.aload_n 0, 1, 0, 0, 0, mj_u) else none)) else
       (bif Nat.blt pc 97 then (bif Nat.beq pc 94 then some (.getfield 30, 3, 6, 7, 138, .null) else none) else
        (bif Nat.beq pc 97 then some (.iload_n 3, 1, 3, 0, 0, mj_u) else none)))) else
     (bif Nat.blt pc 103 then (bif Nat.blt pc 99 then (bif Nat.beq pc 98 then some (.iaload, 1, 0, 0, 0, mj_u) else none) else
       (bif Nat.blt pc 100 then (bif Nat.beq pc 99 then some (.aload_n 0, 1, 0, 0, 0, mj_u) else none) else
        (bif Nat.beq pc 100 then some (.getfield 30, 3, 6, 7, 138, .null) else none))) else
      (bif Nat.blt pc 105 then (bif Nat.blt pc 104 then (bif Nat.beq pc 103 then some (.iload_n 1, 1, 1, 0, 0, mj_u) else none) else
        (bif Nat.beq pc 104 then some (.iaload, 1, 0, 0, 0, mj_u) else none)) else
       (bif Nat.blt pc 108 then (bif Nat.beq pc 105 then some (.invokestatic 93, 3, 26, 0, 431, mj_u) else none) else
        (bif Nat.beq pc 108 then some (.iastore, 1, 0, 0, 0, mj_u) else none))))) else
    (bif Nat.blt pc 120 then (bif Nat.blt pc 114 then (bif Nat.blt pc 110 then (bif Nat.beq pc 109 then some (.aload_n 0, 1, 0, 0, 0, mj_u) else none) else
       (bif Nat.blt pc 113 then (bif Nat.beq pc 110 then some (.getfield 36, 3, 6, 9, 141, .null) else none) else
        (bif Nat.beq pc 113 then some (.iload_n 3, 1, 3, 0, 0, mj_u) else none))) else
      (bif Nat.blt pc 118 then (bif Nat.blt pc 115 then (bif Nat.beq pc 114 then some (.aload_n 0, 1, 0, 0, 0, mj_u) else none) else
        (bif Nat.beq pc 115 then some (.getfield 27, 3, 6, 6, 136, .null) else none)) else
       (bif Nat.blt pc 119 then (bif Nat.beq pc 118 then some (.iload_n 1, 1, 1, 0, 0, mj_u) else none) else
        (bif Nat.beq pc 119 then some (.iaload, 1, 0, 0, 0, mj_u) else none)))) else
     (bif Nat.blt pc 126 then (bif Nat.blt pc 124 then (bif Nat.blt pc 121 then (bif Nat.beq pc 120 then some (.aload_n 0, 1, 0, 0, 0, mj_u) else none) else
        (bif Nat.beq pc 121 then some (.getfield 27, 3, 6, 6, 136, .null) else none)) else
       (bif Nat.blt pc 125 then (bif Nat.beq pc 124 then some (.iload_n 3, 1, 3, 0, 0, mj_u) else none) else
        (bif Nat.beq pc 125 then some (.iaload, 1, 0, 0, 0, mj_u) else none))) else
      (bif Nat.blt pc 130 then (bif Nat.blt pc 129 then (bif Nat.beq pc 126 then some (.if_icmp .eq 27, 3, 153, 0, 0, mj_u) else none) else
        (bif Nat.beq pc 129 then some (.aload_n 0, 1, 0, 0, 0, mj_u) else none)) else
       (bif Nat.blt pc 133 then (bif Nat.beq pc 130 then some (.getfield 36, 3, 6, 9, 141, .null) else none) else
        (bif Nat.beq pc 133 then some (.iload_n 3, 1, 3, 0, 0, mj_u) else none)))))) else
   (bif Nat.blt pc 158 then (bif Nat.blt pc 145 then (bif Nat.blt pc 139 then (bif Nat.blt pc 135 then (bif Nat.beq pc 134 then some (.baload, 1, 0, 0, 0, mj_u) else none) else
       (bif Nat.blt pc 138 then (bif Nat.beq pc 135 then some (.ifCond .eq 22, 3, 157, 0, 0, mj_u) else none) else
        (bif Nat.beq pc 138 then some (.aload_n 0, 1, 0, 0, 0, mj_u) else none))) else
      (bif Nat.blt pc 143 then (bif Nat.blt pc 142 then (bif Nat.beq pc 139 then some (.getfield 27, 3, 6, 6, 136, .null) else none) else
        (bif Nat.beq pc 142 then some (.iload_n 1, 1, 1, 0, 0, mj_u) else none)) else
       (bif Nat.blt pc 144 then (bif Nat.beq pc 143 then some (.iaload, 1, 0, 0, 0, mj_u) else none) else
        (bif Nat.beq pc 144 then some (.aload_n 0, 1, 0, 0, 0, mj_u) else none)))) else
     (bif Nat.blt pc 150 then (bif Nat.blt pc 148 then (bif Nat.beq pc 145 then some (.getfield 27, 3, 6, 6, 136, .null) else none) else
       (bif Nat.blt pc 149 then (bif Nat.beq pc 148 then some (.iload_n 3, 1, 3, 0, 0, mj_u) else none) else
        (bif Nat.beq pc 149 then some (.iaload, 1, 0, 0, 0, mj_u) else none))) else
      (bif Nat.blt pc 154 then (bif Nat.blt pc 153 then (bif Nat.beq pc 150 then some (.if_icmp .ge 7, 3, 157, 0, 0, mj_u) else none) else
        (bif Nat.beq pc 153 then some (.iconst 1, 1, 0, 0, 0, .int 1) else none)) else
       (bif Nat.blt pc 157 then (bif Nat.beq pc 154 then some (.goto 4, 3, 158, 0, 0, mj_u) else none) else
        (bif Nat.beq pc 157 then some (.iconst 0, 1, 0, 0, 0, .int 0) else none))))) else
    (bif Nat.blt pc 169 then (bif Nat.blt pc 163 then (bif Nat.blt pc 159 then (bif Nat.beq pc 158 then some (.bastore, 1, 0, 0, 0, mj_u) else none) else
       (bif Nat.blt pc 160 then (bif Nat.beq pc 159 then some (.aload_n 0, 1, 0, 0, 0, mj_u) else none) else
        (bif Nat.beq pc 160 then some (.getfield 27, 3, 6, 6, 136, .null) else none))) else
      (bif Nat.blt pc 165 then (bif Nat.blt pc 164 then (bif Nat.beq pc 163 then some (.iload_n 3, 1, 3, 0, 0, mj_u) else none) else
        (bif Nat.beq pc 164 then some (.aload_n 0, 1, 0, 0, 0, mj_u) else none)) else
       (bif Nat.blt pc 168 then (bif Nat.beq pc 165 then some (.getfield 27, 3, 6, 6, 136, .null) else none) else
        (bif Nat.beq pc 168 then some (.iload_n 3, 1, 3, 0, 0, mj_u) else none)))) else
     (bif Nat.blt pc 175 then (bif Nat.blt pc 171 then (bif Nat.blt pc 170 then (bif Nat.beq pc 169 then some (.iaload, 1, 0, 0, 0, mj_u) else none) else
        (bif Nat.beq pc 170 then some (.aload_n 0, 1, 0, 0, 0, mj_u) else none)) else
       (bif Nat.blt pc 174 then (bif Nat.beq pc 171 then some (.getfield 27, 3, 6, 6, 136, .null) else none) else
        (bif Nat.beq pc 174 then some (.iload_n 1, 1, 1, 0, 0, mj_u) else none))) else
      (bif Nat.blt pc 179 then (bif Nat.blt pc 176 then (bif Nat.beq pc 175 then some (.iaload, 1, 0, 0, 0, mj_u) else none) else
        (bif Nat.beq pc 176 then some (.invokestatic 93, 3, 26, 0, 431, mj_u) else none)) else
       (bif Nat.blt pc 180 then (bif Nat.beq pc 179 then some (.iastore, 1, 0, 0, 0, mj_u) else none) else
        (bif Nat.beq pc 180 then some (.return_, 1, 0, 0, 0, mj_u) else none)))))))
def m_Streams_passDown : mj_M := (40, prog_8_method_6_code, 4, (Option.none : Option Jvm.ClassFile.FieldType), 6, 2, 430, 429, 9, 47, 181, k_Streams_passDown)
/-- WatershedMap$Streams.findEnd(I)V -/
def k_Streams_findEnd : Nat → Option mj_I := fun pc =>
  bif Nat.blt pc 26 then (bif Nat.blt pc 12 then (bif Nat.blt pc 6 then (bif Nat.blt pc 4 then (bif Nat.blt pc 1 then (bif Nat.beq pc 0 then some (.aload_n 0, 1, 0, 0, 0, mj_u) else none) else
      (bif Nat.beq pc 1 then some (.getfield 15, 3, 6, 2, 129, .null) else none)) else
     (bif Nat.blt pc 5 then (bif Nat.beq pc 4 then some (.iload_n 1, 1, 1, 0, 0, mj_u) else none) else
      (bif Nat.beq pc 5 then some (.iaload, 1, 0, 0, 0, mj_u) else none))) else
    (bif Nat.blt pc 8 then (bif Nat.blt pc 7 then (bif Nat.beq pc 6 then some (.istore_n 2, 1, 2, 0, 0, mj_u) else none) else
      (bif Nat.beq pc 7 then some (.aload_n 0, 1, 0, 0, 0, mj_u) else none)) else
     (bif Nat.blt pc 11 then (bif Nat.beq pc 8 then some (.getfield 21, 3, 6, 4, 133, .null) else none) else
      (bif Nat.beq pc 11 then some (.iload_n 1, 1, 1, 0, 0, mj_u) else none)))) else
   (bif Nat.blt pc 20 then (bif Nat.blt pc 16 then (bif Nat.blt pc 13 then (bif Nat.beq pc 12 then some (.iload_n 2, 1, 2, 0, 0, mj_u) else none) else
      (bif Nat.beq pc 13 then some (.ifCond .ge 7, 3, 20, 0, 0, mj_u) else none)) else
     (bif Nat.blt pc 17 then (bif Nat.beq pc 16 then some (.iload_n 1, 1, 1, 0, 0, mj_u) else none) else
      (bif Nat.beq pc 17 then some (.goto 9, 3, 26, 0, 0, mj_u) else none))) else
    (bif Nat.blt pc 24 then (bif Nat.blt pc 21 then (bif Nat.beq pc 20 then some (.aload_n 0, 1, 0, 0, 0, mj_u) else none) else
      (bif Nat.beq pc 21 then some (.getfield 21, 3, 6, 4, 133, .null) else none)) else
     (bif Nat.blt pc 25 then (bif Nat.beq pc 24 then some (.iload_n 2, 1, 2, 0, 0, mj_u) else none) else
      (bif Nat.beq pc 25 then some (.iaload, 1, 0, 0, 0, mj_u) else none))))) else
  (bif Nat.blt pc 40 then (bif Nat.blt pc 32 then (bif Nat.blt pc 28 then (bif Nat.blt pc 27 then (bif Nat.beq pc 26 then some (.iastore, 1, 0, 0, 0, mj_u) else none) else
      (bif Nat.beq pc 27 then some (.aload_n 0, 1, 0, 0, 0, mj_u) else none)) else
     (bif Nat.blt pc 31 then (bif Nat.beq pc 28 then some (.getfield 24, 3, 6, 5, 135, .null) else none) else
      (bif Nat.beq pc 31 then some (.iload_n 1, 1, 1, 0, 0, mj_u) else none))) else
    (bif Nat.blt pc 36 then (bif Nat.blt pc 33 then (bif Nat.beq pc 32 then some (.iload_n 2, 1, 2, 0, 0, mj_u) else none) else
      (bif Nat.beq pc 33 then some (.ifCond .ge 7, 3, 40, 0, 0, mj_u) else none)) else
     (bif Nat.blt pc 37 then (bif Nat.beq pc 36 then some (.iconst 0, 1, 0, 0, 0, .int 0) else none) else
      (bif Nat.beq pc 37 then some (.goto 11, 3, 48, 0, 0, mj_u) else none)))) else
   (bif Nat.blt pc 46 then (bif Nat.blt pc 44 then (bif Nat.blt pc 41 then (bif Nat.beq pc 40 then some (.aload_n 0, 1, 0, 0, 0, mj_u) else none) else
      (bif Nat.beq pc 41 then some (.getfield 24, 3, 6, 5, 135, .null) else none)) else
     (bif Nat.blt pc 45 then (bif Nat.beq pc 44 then some (.iload_n 2, 1, 2, 0, 0, mj_u) else none) else
      (bif Nat.beq pc 45 then some (.iaload, 1, 0, 0, 0, mj_u) else none))) else
    (bif Nat.blt pc 48 then (bif Nat.blt pc 47 then (bif Nat.beq pc 46 then some (.iconst 1, 1, 0, 0, 0, .int 1) else none) else
      (bif Nat.beq pc 47 then some (.iadd, 1, 0, 0, 0, mj_u) else none)) else
     (bif Nat.blt pc 49 then (bif Nat.beq pc 48 then some (.iastore, 1, 0, 0, 0, mj_u) else none) else
      (bif Nat.beq pc 49 then some (.return_, 1, 0, 0, 0, mj_u) else none)))))
def m_Streams_findEnd : mj_M := (41, prog_8_method_7_code, 3, (Option.none : Option Jvm.ClassFile.FieldType), 6, 1, 435, 434, 10, 47, 50, k_Streams_findEnd)
/-- WatershedMap$Streams.count(I)I -/
def k_Streams_count : Nat → Option mj_I := fun pc =>
  bif Nat.blt pc 20 then (bif Nat.blt pc 6 then (bif Nat.blt pc 3 then (bif Nat.blt pc 1 then (bif Nat.beq pc 0 then some (.iconst 0, 1, 0, 0, 0, .int 0) else none) else
     (bif Nat.blt pc 2 then (bif Nat.beq pc 1 then some (.istore_n 2, 1, 2, 0, 0, mj_u) else none) else
      (bif Nat.beq pc 2 then some (.iconst 0, 1, 0, 0, 0, .int 0) else none))) else
    (bif Nat.blt pc 4 then (bif Nat.beq pc 3 then some (.istore_n 3, 1, 3, 0, 0, mj_u) else none) else
     (bif Nat.blt pc 5 then (bif Nat.beq pc 4 then some (.iload_n 3, 1, 3, 0, 0, mj_u) else none) else
      (bif Nat.beq pc 5 then some (.aload_n 0, 1, 0, 0, 0, mj_u) else none)))) else
   (bif Nat.blt pc 15 then (bif Nat.blt pc 9 then (bif Nat.beq pc 6 then some (.getfield 43, 3, 6, 0, 127, .null) else none) else
     (bif Nat.blt pc 12 then (bif Nat.beq pc 9 then some (.getfield 47, 3, 4, 5, 102, .int 0) else none) else
      (bif Nat.beq pc 12 then some (.if_icmp .ge 27, 3, 39, 0, 0, mj_u) else none))) else
    (bif Nat.blt pc 16 then (bif Nat.beq pc 15 then some (.iload_n 2, 1, 2, 0, 0, mj_u) else none) else
     (bif Nat.blt pc 17 then (bif Nat.beq pc 16 then some (.aload_n 0, 1, 0, 0, 0, mj_u) else none) else
      (bif Nat.beq pc 17 then some (.getfield 9, 3, 6, 1, 128, .null) else none))))) else
  (bif Nat.blt pc 30 then (bif Nat.blt pc 23 then (bif Nat.blt pc 21 then (bif Nat.beq pc 20 then some (.iload_n 3, 1, 3, 0, 0, mj_u) else none) else
     (bif Nat.blt pc 22 then (bif Nat.beq pc 21 then some (.iaload, 1, 0, 0, 0, mj_u) else none) else
      (bif Nat.beq pc 22 then some (.iload_n 1, 1, 1, 0, 0, mj_u) else none))) else
    (bif Nat.blt pc 26 then (bif Nat.beq pc 23 then some (.if_icmp .ne 7, 3, 30, 0, 0, mj_u) else none) else
     (bif Nat.blt pc 27 then (bif Nat.beq pc 26 then some (.iconst 1, 1, 0, 0, 0, .int 1) else none) else
      (bif Nat.beq pc 27 then some (.goto 4, 3, 31, 0, 0, mj_u) else none)))) else
   (bif Nat.blt pc 33 then (bif Nat.blt pc 31 then (bif Nat.beq pc 30 then some (.iconst 0, 1, 0, 0, 0, .int 0) else none) else
     (bif Nat.blt pc 32 then (bif Nat.beq pc 31 then some (.iadd, 1, 0, 0, 0, mj_u) else none) else
      (bif Nat.beq pc 32 then some (.istore_n 2, 1, 2, 0, 0, mj_u) else none))) else
    (bif Nat.blt pc 39 then (bif Nat.blt pc 36 then (bif Nat.beq pc 33 then some (.iinc 3 1, 3, 3, 0, 0, .int 1) else none) else
      (bif Nat.beq pc 36 then some (.goto (-32), 3, 4, 0, 0, mj_u) else none)) else
     (bif Nat.blt pc 40 then (bif Nat.beq pc 39 then some (.iload_n 2, 1, 2, 0, 0, mj_u) else none) else
      (bif Nat.beq pc 40 then some (.ireturn, 1, 0, 0, 0, mj_u) else none)))))
def m_Streams_count : mj_M := (42, prog_8_method_9_code, 4, (Option.some Jvm.ClassFile.FieldType.int), 6, 1, 439, 437, 438, 47, 41, k_Streams_count)
/-- WatershedMap.pits()I -/
def k_W_pits : Nat → Option mj_I := fun pc =>
  bif Nat.blt pc 11 then (bif Nat.blt pc 4 then (bif Nat.blt pc 1 then (bif Nat.beq pc 0 then some (.aload_n 0, 1, 0, 0, 0, mj_u) else none) else
    (bif Nat.beq pc 1 then some (.getfield 21, 3, 8, 1, 297, .null) else none)) else
   (bif Nat.blt pc 5 then (bif Nat.beq pc 4 then some (.aload_n 0, 1, 0, 0, 0, mj_u) else none) else
    (bif Nat.blt pc 8 then (bif Nat.beq pc 5 then some (.getfield 57, 3, 8, 7, 303, .int 0) else none) else
     (bif Nat.beq pc 8 then some (.invokevirtual 100, 3, 35, 0, 405, mj_u) else none)))) else
  (bif Nat.blt pc 15 then (bif Nat.blt pc 12 then (bif Nat.beq pc 11 then some (.aload_n 0, 1, 0, 0, 0, mj_u) else none) else
    (bif Nat.beq pc 12 then some (.getfield 21, 3, 8, 1, 297, .null) else none)) else
   (bif Nat.blt pc 17 then (bif Nat.beq pc 15 then some (.bipush 9, 2, 0, 0, 0, .int 9) else none) else
    (bif Nat.blt pc 20 then (bif Nat.beq pc 17 then some (.invokevirtual 127, 3, 42, 0, 436, mj_u) else none) else
     (bif Nat.beq pc 20 then some (.ireturn, 1, 0, 0, 0, mj_u) else none))))
def m_W_pits : mj_M := (43, prog_1_method_15_code, 1, (Option.some Jvm.ClassFile.FieldType.int), 8, 0, 443, 441, 442, 45, 21, k_W_pits)
/-- WatershedMap.mostRank()I -/
def k_W_mostRank : Nat → Option mj_I := fun pc =>
  bif Nat.blt pc 12 then (bif Nat.blt pc 5 then (bif Nat.blt pc 1 then (bif Nat.beq pc 0 then some (.aload_n 0, 1, 0, 0, 0, mj_u) else none) else
    (bif Nat.blt pc 4 then (bif Nat.beq pc 1 then some (.getfield 21, 3, 8, 1, 297, .null) else none) else
     (bif Nat.beq pc 4 then some (.aload_n 0, 1, 0, 0, 0, mj_u) else none))) else
   (bif Nat.blt pc 8 then (bif Nat.beq pc 5 then some (.getfield 57, 3, 8, 7, 303, .int 0) else none) else
    (bif Nat.blt pc 11 then (bif Nat.beq pc 8 then some (.invokevirtual 100, 3, 35, 0, 405, mj_u) else none) else
     (bif Nat.beq pc 11 then some (.aload_n 0, 1, 0, 0, 0, mj_u) else none)))) else
  (bif Nat.blt pc 19 then (bif Nat.blt pc 15 then (bif Nat.beq pc 12 then some (.getfield 21, 3, 8, 1, 297, .null) else none) else
    (bif Nat.blt pc 16 then (bif Nat.beq pc 15 then some (.aload_n 0, 1, 0, 0, 0, mj_u) else none) else
     (bif Nat.beq pc 16 then some (.getfield 21, 3, 8, 1, 297, .null) else none))) else
   (bif Nat.blt pc 22 then (bif Nat.beq pc 19 then some (.getfield 130, 3, 6, 6, 137, .null) else none) else
    (bif Nat.blt pc 25 then (bif Nat.beq pc 22 then some (.invokevirtual 133, 3, 45, 0, 448, mj_u) else none) else
     (bif Nat.beq pc 25 then some (.ireturn, 1, 0, 0, 0, mj_u) else none))))
def m_W_mostRank : mj_M := (44, prog_1_method_16_code, 1, (Option.some Jvm.ClassFile.FieldType.int), 8, 0, 447, 445, 446, 45, 26, k_W_mostRank)
/-- WatershedMap$Streams.greatestOf([I)I -/
def k_Streams_greatestOf : Nat → Option mj_I := fun pc =>
  bif Nat.blt pc 15 then (bif Nat.blt pc 4 then (bif Nat.blt pc 2 then (bif Nat.blt pc 1 then (bif Nat.beq pc 0 then some (.iconst 0, 1, 0, 0, 0, .int 0) else none) else
     (bif Nat.beq pc 1 then some (.istore_n 2, 1, 2, 0, 0, mj_u) else none)) else
    (bif Nat.blt pc 3 then (bif Nat.beq pc 2 then some (.iconst 0, 1, 0, 0, 0, .int 0) else none) else
     (bif Nat.beq pc 3 then some (.istore_n 3, 1, 3, 0, 0, mj_u) else none))) else
   (bif Nat.blt pc 6 then (bif Nat.blt pc 5 then (bif Nat.beq pc 4 then some (.iload_n 3, 1, 3, 0, 0, mj_u) else none) else
     (bif Nat.beq pc 5 then some (.aload_n 0, 1, 0, 0, 0, mj_u) else none)) else
    (bif Nat.blt pc 9 then (bif Nat.beq pc 6 then some (.getfield 43, 3, 6, 0, 127, .null) else none) else
     (bif Nat.blt pc 12 then (bif Nat.beq pc 9 then some (.getfield 47, 3, 4, 5, 102, .int 0) else none) else
      (bif Nat.beq pc 12 then some (.if_icmp .ge 17, 3, 29, 0, 0, mj_u) else none))))) else
  (bif Nat.blt pc 22 then (bif Nat.blt pc 17 then (bif Nat.blt pc 16 then (bif Nat.beq pc 15 then some (.iload_n 2, 1, 2, 0, 0, mj_u) else none) else
     (bif Nat.beq pc 16 then some (.aload_n 1, 1, 1, 0, 0, mj_u) else none)) else
    (bif Nat.blt pc 18 then (bif Nat.beq pc 17 then some (.iload_n 3, 1, 3, 0, 0, mj_u) else none) else
     (bif Nat.blt pc 19 then (bif Nat.beq pc 18 then some (.iaload, 1, 0, 0, 0, mj_u) else none) else
      (bif Nat.beq pc 19 then some (.invokestatic 93, 3, 26, 0, 431, mj_u) else none)))) else
   (bif Nat.blt pc 26 then (bif Nat.blt pc 23 then (bif Nat.beq pc 22 then some (.istore_n 2, 1, 2, 0, 0, mj_u) else none) else
     (bif Nat.beq pc 23 then some (.iinc 3 1, 3, 3, 0, 0, .int 1) else none)) else
    (bif Nat.blt pc 29 then (bif Nat.beq pc 26 then some (.goto (-22), 3, 4, 0, 0, mj_u) else none) else
     (bif Nat.blt pc 30 then (bif Nat.beq pc 29 then some (.iload_n 2, 1, 2, 0, 0, mj_u) else none) else
      (bif Nat.beq pc 30 then some (.ireturn, 1, 0, 0, 0, mj_u) else none)))))
def m_Streams_greatestOf : mj_M := (45, prog_8_method_10_code, 4, (Option.some Jvm.ClassFile.FieldType.int), 6, 1, 451, 449, 450, 47, 31, k_Streams_greatestOf)
/-- WatershedMap.longestStream()I -/
def k_W_longestStream : Nat → Option mj_I := fun pc =>
  bif Nat.blt pc 12 then (bif Nat.blt pc 5 then (bif Nat.blt pc 1 then (bif Nat.beq pc 0 then some (.aload_n 0, 1, 0, 0, 0, mj_u) else none) else
    (bif Nat.blt pc 4 then (bif Nat.beq pc 1 then some (.getfield 21, 3, 8, 1, 297, .null) else none) else
     (bif Nat.beq pc 4 then some (.aload_n 0, 1, 0, 0, 0, mj_u) else none))) else
   (bif Nat.blt pc 8 then (bif Nat.beq pc 5 then some (.getfield 57, 3, 8, 7, 303, .int 0) else none) else
    (bif Nat.blt pc 11 then (bif Nat.beq pc 8 then some (.invokevirtual 100, 3, 35, 0, 405, mj_u) else none) else
     (bif Nat.beq pc 11 then some (.aload_n 0, 1, 0, 0, 0, mj_u) else none)))) else
  (bif Nat.blt pc 19 then (bif Nat.blt pc 15 then (bif Nat.beq pc 12 then some (.getfield 21, 3, 8, 1, 297, .null) else none) else
    (bif Nat.blt pc 16 then (bif Nat.beq pc 15 then some (.aload_n 0, 1, 0, 0, 0, mj_u) else none) else
     (bif Nat.beq pc 16 then some (.getfield 21, 3, 8, 1, 297, .null) else none))) else
   (bif Nat.blt pc 22 then (bif Nat.beq pc 19 then some (.getfield 136, 3, 6, 7, 139, .null) else none) else
    (bif Nat.blt pc 25 then (bif Nat.beq pc 22 then some (.invokevirtual 133, 3, 45, 0, 448, mj_u) else none) else
     (bif Nat.beq pc 25 then some (.ireturn, 1, 0, 0, 0, mj_u) else none))))
def m_W_longestStream : mj_M := (46, prog_1_method_17_code, 1, (Option.some Jvm.ClassFile.FieldType.int), 8, 0, 455, 453, 454, 45, 26, k_W_longestStream)
/-- WatershedMap.lakes()I -/
def k_W_lakes : Nat → Option mj_I := fun pc =>
  bif Nat.blt pc 7 then (bif Nat.blt pc 1 then (bif Nat.beq pc 0 then some (.aload_n 0, 1, 0, 0, 0, mj_u) else none) else
   (bif Nat.blt pc 4 then (bif Nat.beq pc 1 then some (.getfield 28, 3, 8, 2, 298, .null) else none) else
    (bif Nat.beq pc 4 then some (.invokevirtual 108, 3, 19, 0, 341, mj_u) else none))) else
  (bif Nat.blt pc 11 then (bif Nat.blt pc 8 then (bif Nat.beq pc 7 then some (.aload_n 0, 1, 0, 0, 0, mj_u) else none) else
    (bif Nat.beq pc 8 then some (.getfield 28, 3, 8, 2, 298, .null) else none)) else
   (bif Nat.blt pc 14 then (bif Nat.beq pc 11 then some (.getfield 139, 3, 3, 4, 205, .int 0) else none) else
    (bif Nat.beq pc 14 then some (.ireturn, 1, 0, 0, 0, mj_u) else none)))
def m_W_lakes : mj_M := (47, prog_1_method_19_code, 1, (Option.some Jvm.ClassFile.FieldType.int), 8, 0, 459, 457, 458, 45, 15, k_W_lakes)
/-- WatershedMap.volume()I -/
def k_W_volume : Nat → Option mj_I := fun pc =>
  bif Nat.blt pc 7 then (bif Nat.blt pc 1 then (bif Nat.beq pc 0 then some (.aload_n 0, 1, 0, 0, 0, mj_u) else none) else
   (bif Nat.blt pc 4 then (bif Nat.beq pc 1 then some (.getfield 28, 3, 8, 2, 298, .null) else none) else
    (bif Nat.beq pc 4 then some (.invokevirtual 108, 3, 19, 0, 341, mj_u) else none))) else
  (bif Nat.blt pc 11 then (bif Nat.blt pc 8 then (bif Nat.beq pc 7 then some (.aload_n 0, 1, 0, 0, 0, mj_u) else none) else
    (bif Nat.beq pc 8 then some (.getfield 28, 3, 8, 2, 298, .null) else none)) else
   (bif Nat.blt pc 14 then (bif Nat.beq pc 11 then some (.invokevirtual 148, 3, 49, 0, 464, mj_u) else none) else
    (bif Nat.beq pc 14 then some (.ireturn, 1, 0, 0, 0, mj_u) else none)))
def m_W_volume : mj_M := (48, prog_1_method_21_code, 1, (Option.some Jvm.ClassFile.FieldType.int), 8, 0, 463, 461, 462, 45, 15, k_W_volume)
/-- WatershedMap$Hollows.content()I -/
def k_Hollows_content : Nat → Option mj_I := fun pc =>
  bif Nat.blt pc 15 then (bif Nat.blt pc 4 then (bif Nat.blt pc 2 then (bif Nat.blt pc 1 then (bif Nat.beq pc 0 then some (.iconst 0, 1, 0, 0, 0, .int 0) else none) else
     (bif Nat.beq pc 1 then some (.istore_n 1, 1, 1, 0, 0, mj_u) else none)) else
    (bif Nat.blt pc 3 then (bif Nat.beq pc 2 then some (.iconst 0, 1, 0, 0, 0, .int 0) else none) else
     (bif Nat.beq pc 3 then some (.istore_n 2, 1, 2, 0, 0, mj_u) else none))) else
   (bif Nat.blt pc 6 then (bif Nat.blt pc 5 then (bif Nat.beq pc 4 then some (.iload_n 2, 1, 2, 0, 0, mj_u) else none) else
     (bif Nat.beq pc 5 then some (.aload_n 0, 1, 0, 0, 0, mj_u) else none)) else
    (bif Nat.blt pc 9 then (bif Nat.beq pc 6 then some (.getfield 29, 3, 3, 0, 199, .null) else none) else
     (bif Nat.blt pc 12 then (bif Nat.beq pc 9 then some (.getfield 43, 3, 4, 5, 104, .int 0) else none) else
      (bif Nat.beq pc 12 then some (.if_icmp .ge 17, 3, 29, 0, 0, mj_u) else none))))) else
  (bif Nat.blt pc 22 then (bif Nat.blt pc 17 then (bif Nat.blt pc 16 then (bif Nat.beq pc 15 then some (.iload_n 1, 1, 1, 0, 0, mj_u) else none) else
     (bif Nat.beq pc 16 then some (.aload_n 0, 1, 0, 0, 0, mj_u) else none)) else
    (bif Nat.blt pc 18 then (bif Nat.beq pc 17 then some (.iload_n 2, 1, 2, 0, 0, mj_u) else none) else
     (bif Nat.blt pc 21 then (bif Nat.beq pc 18 then some (.invokevirtual 89, 3, 29, 0, 381, mj_u) else none) else
      (bif Nat.beq pc 21 then some (.iadd, 1, 0, 0, 0, mj_u) else none)))) else
   (bif Nat.blt pc 26 then (bif Nat.blt pc 23 then (bif Nat.beq pc 22 then some (.istore_n 1, 1, 1, 0, 0, mj_u) else none) else
     (bif Nat.beq pc 23 then some (.iinc 2 1, 3, 2, 0, 0, .int 1) else none)) else
    (bif Nat.blt pc 29 then (bif Nat.beq pc 26 then some (.goto (-22), 3, 4, 0, 0, mj_u) else none) else
     (bif Nat.blt pc 30 then (bif Nat.beq pc 29 then some (.iload_n 1, 1, 1, 0, 0, mj_u) else none) else
      (bif Nat.beq pc 30 then some (.ireturn, 1, 0, 0, 0, mj_u) else none)))))
def m_Hollows_content : mj_M := (49, prog_5_method_11_code, 3, (Option.some Jvm.ClassFile.FieldType.int), 3, 0, 467, 465, 466, 48, 31, k_Hollows_content)
/-- WatershedMap.steepness()D -/
def k_W_steepness : Nat → Option mj_I := fun pc =>
  bif Nat.blt pc 4 then (bif Nat.blt pc 1 then (bif Nat.beq pc 0 then some (.aload_n 0, 1, 0, 0, 0, mj_u) else none) else
   (bif Nat.beq pc 1 then some (.getfield 10, 3, 8, 0, 296, .null) else none)) else
  (bif Nat.blt pc 7 then (bif Nat.beq pc 4 then some (.invokevirtual 179, 3, 51, 0, 472, mj_u) else none) else
   (bif Nat.beq pc 7 then some (.dreturn, 1, 0, 0, 0, mj_u) else none))
def m_W_steepness : mj_M := (50, prog_1_method_27_code, 1, (Option.some Jvm.ClassFile.FieldType.double), 8, 0, 471, 469, 470, 45, 8, k_W_steepness)
/-- WatershedMap$Land.meanSteepness()D -/
def k_Land_meanSteepness : Nat → Option mj_I := fun pc =>
  bif Nat.blt pc 20 then (bif Nat.blt pc 9 then (bif Nat.blt pc 3 then (bif Nat.blt pc 1 then (bif Nat.beq pc 0 then some (.iconst 0, 1, 0, 0, 0, .int 0) else none) else
     (bif Nat.blt pc 2 then (bif Nat.beq pc 1 then some (.istore_n 1, 1, 1, 0, 0, mj_u) else none) else
      (bif Nat.beq pc 2 then some (.iconst 0, 1, 0, 0, 0, .int 0) else none))) else
    (bif Nat.blt pc 5 then (bif Nat.blt pc 4 then (bif Nat.beq pc 3 then some (.istore_n 2, 1, 2, 0, 0, mj_u) else none) else
      (bif Nat.beq pc 4 then some (.iload_n 2, 1, 2, 0, 0, mj_u) else none)) else
     (bif Nat.blt pc 6 then (bif Nat.beq pc 5 then some (.aload_n 0, 1, 0, 0, 0, mj_u) else none) else
      (bif Nat.beq pc 6 then some (.getfield 28, 3, 4, 5, 103, .int 0) else none)))) else
   (bif Nat.blt pc 14 then (bif Nat.blt pc 12 then (bif Nat.beq pc 9 then some (.if_icmp .ge 17, 3, 26, 0, 0, mj_u) else none) else
     (bif Nat.blt pc 13 then (bif Nat.beq pc 12 then some (.iload_n 1, 1, 1, 0, 0, mj_u) else none) else
      (bif Nat.beq pc 13 then some (.aload_n 0, 1, 0, 0, 0, mj_u) else none))) else
    (bif Nat.blt pc 18 then (bif Nat.blt pc 15 then (bif Nat.beq pc 14 then some (.iload_n 2, 1, 2, 0, 0, mj_u) else none) else
      (bif Nat.beq pc 15 then some (.invokevirtual 104, 3, 52, 0, 476, mj_u) else none)) else
     (bif Nat.blt pc 19 then (bif Nat.beq pc 18 then some (.iadd, 1, 0, 0, 0, mj_u) else none) else
      (bif Nat.beq pc 19 then some (.istore_n 1, 1, 1, 0, 0, mj_u) else none))))) else
  (bif Nat.blt pc 35 then (bif Nat.blt pc 27 then (bif Nat.blt pc 23 then (bif Nat.beq pc 20 then some (.iinc 2 1, 3, 2, 0, 0, .int 1) else none) else
     (bif Nat.blt pc 26 then (bif Nat.beq pc 23 then some (.goto (-19), 3, 4, 0, 0, mj_u) else none) else
      (bif Nat.beq pc 26 then some (.aload_n 0, 1, 0, 0, 0, mj_u) else none))) else
    (bif Nat.blt pc 31 then (bif Nat.blt pc 30 then (bif Nat.beq pc 27 then some (.getfield 28, 3, 4, 5, 103, .int 0) else none) else
      (bif Nat.beq pc 30 then some (.iconst 1, 1, 0, 0, 0, .int 1) else none)) else
     (bif Nat.blt pc 34 then (bif Nat.beq pc 31 then some (.if_icmp .ge 7, 3, 38, 0, 0, mj_u) else none) else
      (bif Nat.beq pc 34 then some (.dconst 0, 1, 0, 0, 0, .double FP.dconst0) else none)))) else
   (bif Nat.blt pc 41 then (bif Nat.blt pc 39 then (bif Nat.blt pc 38 then (bif Nat.beq pc 35 then some (.goto 11, 3, 46, 0, 0, mj_u) else none) else
      (bif Nat.beq pc 38 then some (.iload_n 1, 1, 1, 0, 0, mj_u) else none)) else
     (bif Nat.blt pc 40 then (bif Nat.beq pc 39 then some (.i2d, 1, 0, 0, 0, mj_u) else none) else
      (bif Nat.beq pc 40 then some (.aload_n 0, 1, 0, 0, 0, mj_u) else none))) else
    (bif Nat.blt pc 45 then (bif Nat.blt pc 44 then (bif Nat.beq pc 41 then some (.getfield 28, 3, 4, 5, 103, .int 0) else none) else
      (bif Nat.beq pc 44 then some (.i2d, 1, 0, 0, 0, mj_u) else none)) else
     (bif Nat.blt pc 46 then (bif Nat.beq pc 45 then some (.ddiv, 1, 0, 0, 0, mj_u) else none) else
      (bif Nat.beq pc 46 then some (.dreturn, 1, 0, 0, 0, mj_u) else none)))))
def m_Land_meanSteepness : mj_M := (51, prog_6_method_23_code, 3, (Option.some Jvm.ClassFile.FieldType.double), 4, 0, 475, 473, 474, 46, 47, k_Land_meanSteepness)
/-- WatershedMap$Land.steepnessOf(I)I -/
def k_Land_steepnessOf : Nat → Option mj_I := fun pc =>
  bif Nat.blt pc 18 then (bif Nat.blt pc 7 then (bif Nat.blt pc 3 then (bif Nat.blt pc 1 then (bif Nat.beq pc 0 then some (.iconst 0, 1, 0, 0, 0, .int 0) else none) else
     (bif Nat.blt pc 2 then (bif Nat.beq pc 1 then some (.istore_n 2, 1, 2, 0, 0, mj_u) else none) else
      (bif Nat.beq pc 2 then some (.iconst 0, 1, 0, 0, 0, .int 0) else none))) else
    (bif Nat.blt pc 4 then (bif Nat.beq pc 3 then some (.istore_n 3, 1, 3, 0, 0, mj_u) else none) else
     (bif Nat.blt pc 5 then (bif Nat.beq pc 4 then some (.iload_n 3, 1, 3, 0, 0, mj_u) else none) else
      (bif Nat.beq pc 5 then some (.bipush 8, 2, 0, 0, 0, .int 8) else none)))) else
   (bif Nat.blt pc 12 then (bif Nat.blt pc 10 then (bif Nat.beq pc 7 then some (.if_icmp .ge 34, 3, 41, 0, 0, mj_u) else none) else
     (bif Nat.blt pc 11 then (bif Nat.beq pc 10 then some (.aload_n 0, 1, 0, 0, 0, mj_u) else none) else
      (bif Nat.beq pc 11 then some (.iload_n 1, 1, 1, 0, 0, mj_u) else none))) else
    (bif Nat.blt pc 13 then (bif Nat.beq pc 12 then some (.iload_n 3, 1, 3, 0, 0, mj_u) else none) else
     (bif Nat.blt pc 16 then (bif Nat.beq pc 13 then some (.invokevirtual 55, 3, 16, 0, 329, mj_u) else none) else
      (bif Nat.beq pc 16 then some (.istore 4, 2, 4, 0, 0, mj_u) else none))))) else
  (bif Nat.blt pc 28 then (bif Nat.blt pc 24 then (bif Nat.blt pc 20 then (bif Nat.beq pc 18 then some (.iload 4, 2, 4, 0, 0, mj_u) else none) else
     (bif Nat.blt pc 23 then (bif Nat.beq pc 20 then some (.ifCond .lt 15, 3, 35, 0, 0, mj_u) else none) else
      (bif Nat.beq pc 23 then some (.iload_n 2, 1, 2, 0, 0, mj_u) else none))) else
    (bif Nat.blt pc 25 then (bif Nat.beq pc 24 then some (.aload_n 0, 1, 0, 0, 0, mj_u) else none) else
     (bif Nat.blt pc 26 then (bif Nat.beq pc 25 then some (.iload_n 1, 1, 1, 0, 0, mj_u) else none) else
      (bif Nat.beq pc 26 then some (.iload 4, 2, 4, 0, 0, mj_u) else none)))) else
   (bif Nat.blt pc 35 then (bif Nat.blt pc 31 then (bif Nat.beq pc 28 then some (.invokevirtual 101, 3, 53, 0, 480, mj_u) else none) else
     (bif Nat.blt pc 34 then (bif Nat.beq pc 31 then some (.invokestatic 77, 3, 26, 0, 487, mj_u) else none) else
      (bif Nat.beq pc 34 then some (.istore_n 2, 1, 2, 0, 0, mj_u) else none))) else
    (bif Nat.blt pc 41 then (bif Nat.blt pc 38 then (bif Nat.beq pc 35 then some (.iinc 3 1, 3, 3, 0, 0, .int 1) else none) else
      (bif Nat.beq pc 38 then some (.goto (-34), 3, 4, 0, 0, mj_u) else none)) else
     (bif Nat.blt pc 42 then (bif Nat.beq pc 41 then some (.iload_n 2, 1, 2, 0, 0, mj_u) else none) else
      (bif Nat.beq pc 42 then some (.ireturn, 1, 0, 0, 0, mj_u) else none)))))
def m_Land_steepnessOf : mj_M := (52, prog_6_method_24_code, 5, (Option.some Jvm.ClassFile.FieldType.int), 4, 1, 479, 478, 11, 46, 43, k_Land_steepnessOf)
/-- WatershedMap$Land.difference(II)I -/
def k_Land_difference : Nat → Option mj_I := fun pc =>
  bif Nat.blt pc 7 then (bif Nat.blt pc 4 then (bif Nat.blt pc 1 then (bif Nat.beq pc 0 then some (.aload_n 0, 1, 0, 0, 0, mj_u) else none) else
    (bif Nat.beq pc 1 then some (.getfield 9, 3, 4, 0, 87, .null) else none)) else
   (bif Nat.blt pc 5 then (bif Nat.beq pc 4 then some (.iload_n 1, 1, 1, 0, 0, mj_u) else none) else
    (bif Nat.blt pc 6 then (bif Nat.beq pc 5 then some (.iaload, 1, 0, 0, 0, mj_u) else none) else
     (bif Nat.beq pc 6 then some (.aload_n 0, 1, 0, 0, 0, mj_u) else none)))) else
  (bif Nat.blt pc 12 then (bif Nat.blt pc 10 then (bif Nat.beq pc 7 then some (.getfield 9, 3, 4, 0, 87, .null) else none) else
    (bif Nat.blt pc 11 then (bif Nat.beq pc 10 then some (.iload_n 2, 1, 2, 0, 0, mj_u) else none) else
     (bif Nat.beq pc 11 then some (.iaload, 1, 0, 0, 0, mj_u) else none))) else
   (bif Nat.blt pc 13 then (bif Nat.beq pc 12 then some (.isub, 1, 0, 0, 0, mj_u) else none) else
    (bif Nat.blt pc 16 then (bif Nat.beq pc 13 then some (.invokestatic 58, 3, 54, 0, 484, mj_u) else none) else
     (bif Nat.beq pc 16 then some (.ireturn, 1, 0, 0, 0, mj_u) else none))))
def m_Land_difference : mj_M := (53, prog_6_method_10_code, 3, (Option.some Jvm.ClassFile.FieldType.int), 4, 2, 483, 481, 482, 46, 17, k_Land_difference)
/-- java/lang/Math.abs(I)I static -/
def k_Math_abs : Nat → Option mj_I := fun pc =>
  bif Nat.blt pc 5 then (bif Nat.blt pc 1 then (bif Nat.beq pc 0 then some (.iload_n 0, 1, 0, 0, 0, mj_u) else none) else
   (bif Nat.blt pc 4 then (bif Nat.beq pc 1 then some (.ifCond .ge 8, 3, 9, 0, 0, mj_u) else none) else
    (bif Nat.beq pc 4 then some (.iload_n 0, 1, 0, 0, 0, mj_u) else none))) else
  (bif Nat.blt pc 9 then (bif Nat.blt pc 6 then (bif Nat.beq pc 5 then some (.ineg, 1, 0, 0, 0, mj_u) else none) else
    (bif Nat.beq pc 6 then some (.goto 4, 3, 10, 0, 0, mj_u) else none)) else
   (bif Nat.blt pc 10 then (bif Nat.beq pc 9 then some (.iload_n 0, 1, 0, 0, 0, mj_u) else none) else
    (bif Nat.beq pc 10 then some (.ireturn, 1, 0, 0, 0, mj_u) else none)))
def m_Math_abs : mj_M := (54, prog_22_method_59_code, 1, (Option.some Jvm.ClassFile.FieldType.int), 12, 1, 486, 485, 0, 62, 11, k_Math_abs)
/-- WatershedMap.digest()J -/
def k_W_digest : Nat → Option mj_I := fun pc =>
  bif Nat.blt pc 45 then (bif Nat.blt pc 25 then (bif Nat.blt pc 11 then (bif Nat.blt pc 4 then (bif Nat.blt pc 1 then (bif Nat.beq pc 0 then some (.aload_n 0, 1, 0, 0, 0, mj_u) else none) else
      (bif Nat.beq pc 1 then some (.getfield 21, 3, 8, 1, 297, .null) else none)) else
     (bif Nat.blt pc 5 then (bif Nat.beq pc 4 then some (.aload_n 0, 1, 0, 0, 0, mj_u) else none) else
      (bif Nat.blt pc 8 then (bif Nat.beq pc 5 then some (.getfield 57, 3, 8, 7, 303, .int 0) else none) else
       (bif Nat.beq pc 8 then some (.invokevirtual 100, 3, 35, 0, 405, mj_u) else none)))) else
    (bif Nat.blt pc 18 then (bif Nat.blt pc 12 then (bif Nat.beq pc 11 then some (.aload_n 0, 1, 0, 0, 0, mj_u) else none) else
      (bif Nat.blt pc 15 then (bif Nat.beq pc 12 then some (.getfield 28, 3, 8, 2, 298, .null) else none) else
       (bif Nat.beq pc 15 then some (.invokevirtual 108, 3, 19, 0, 341, mj_u) else none))) else
     (bif Nat.blt pc 19 then (bif Nat.beq pc 18 then some (.aload_n 0, 1, 0, 0, 0, mj_u) else none) else
      (bif Nat.blt pc 22 then (bif Nat.beq pc 19 then some (.ldc2_w 195, 3, 0, 0, 492, .long 58078) else none) else
       (bif Nat.beq pc 22 then some (.invokevirtual 197, 3, 56, 0, 493, mj_u) else none))))) else
   (bif Nat.blt pc 33 then (bif Nat.blt pc 28 then (bif Nat.blt pc 26 then (bif Nat.beq pc 25 then some (.lstore_n 1, 1, 1, 0, 0, mj_u) else none) else
      (bif Nat.blt pc 27 then (bif Nat.beq pc 26 then some (.iconst 0, 1, 0, 0, 0, .int 0) else none) else
       (bif Nat.beq pc 27 then some (.istore_n 3, 1, 3, 0, 0, mj_u) else none))) else
     (bif Nat.blt pc 29 then (bif Nat.beq pc 28 then some (.iload_n 3, 1, 3, 0, 0, mj_u) else none) else
      (bif Nat.blt pc 32 then (bif Nat.beq pc 29 then some (.getstatic 201, 3, 2, 0, 517, mj_u) else none) else
       (bif Nat.beq pc 32 then some (.arraylength, 1, 0, 0, 0, mj_u) else none)))) else
    (bif Nat.blt pc 40 then (bif Nat.blt pc 36 then (bif Nat.beq pc 33 then some (.if_icmp .ge 53, 3, 86, 0, 0, mj_u) else none) else
      (bif Nat.blt pc 37 then (bif Nat.beq pc 36 then some (.aload_n 0, 1, 0, 0, 0, mj_u) else none) else
       (bif Nat.beq pc 37 then some (.getfield 35, 3, 8, 3, 299, .null) else none))) else
     (bif Nat.blt pc 43 then (bif Nat.beq pc 40 then some (.getstatic 201, 3, 2, 0, 517, mj_u) else none) else
      (bif Nat.blt pc 44 then (bif Nat.beq pc 43 then some (.iload_n 3, 1, 3, 0, 0, mj_u) else none) else
       (bif Nat.beq pc 44 then some (.iaload, 1, 0, 0, 0, mj_u) else none)))))) else
  (bif Nat.blt pc 68 then (bif Nat.blt pc 57 then (bif Nat.blt pc 51 then (bif Nat.blt pc 48 then (bif Nat.beq pc 45 then some (.invokevirtual 151, 3, 62, 0, 519, mj_u) else none) else
      (bif Nat.blt pc 49 then (bif Nat.beq pc 48 then some (.iconst 0, 1, 0, 0, 0, .int 0) else none) else
       (bif Nat.beq pc 49 then some (.istore 4, 2, 4, 0, 0, mj_u) else none))) else
     (bif Nat.blt pc 53 then (bif Nat.beq pc 51 then some (.iload 4, 2, 4, 0, 0, mj_u) else none) else
      (bif Nat.blt pc 54 then (bif Nat.beq pc 53 then some (.iconst 2, 1, 0, 0, 0, .int 2) else none) else
       (bif Nat.beq pc 54 then some (.if_icmp .gt 26, 3, 80, 0, 0, mj_u) else none)))) else
    (bif Nat.blt pc 62 then (bif Nat.blt pc 58 then (bif Nat.beq pc 57 then some (.lload_n 1, 1, 1, 0, 0, mj_u) else none) else
      (bif Nat.blt pc 61 then (bif Nat.beq pc 58 then some (.ldc2_w 204, 3, 0, 0, 497, .long 31) else none) else
       (bif Nat.beq pc 61 then some (.lmul, 1, 0, 0, 0, mj_u) else none))) else
     (bif Nat.blt pc 63 then (bif Nat.beq pc 62 then some (.aload_n 0, 1, 0, 0, 0, mj_u) else none) else
      (bif Nat.blt pc 66 then (bif Nat.beq pc 63 then some (.getfield 35, 3, 8, 3, 299, .null) else none) else
       (bif Nat.beq pc 66 then some (.iload 4, 2, 4, 0, 0, mj_u) else none))))) else
   (bif Nat.blt pc 80 then (bif Nat.blt pc 73 then (bif Nat.blt pc 71 then (bif Nat.beq pc 68 then some (.invokevirtual 154, 3, 69, 0, 549, mj_u) else none) else
      (bif Nat.blt pc 72 then (bif Nat.beq pc 71 then some (.i2l, 1, 0, 0, 0, mj_u) else none) else
       (bif Nat.beq pc 72 then some (.ladd, 1, 0, 0, 0, mj_u) else none))) else
     (bif Nat.blt pc 74 then (bif Nat.beq pc 73 then some (.lstore_n 1, 1, 1, 0, 0, mj_u) else none) else
      (bif Nat.blt pc 77 then (bif Nat.beq pc 74 then some (.iinc 4 1, 3, 4, 0, 0, .int 1) else none) else
       (bif Nat.beq pc 77 then some (.goto (-26), 3, 51, 0, 0, mj_u) else none)))) else
    (bif Nat.blt pc 87 then (bif Nat.blt pc 83 then (bif Nat.beq pc 80 then some (.iinc 3 1, 3, 3, 0, 0, .int 1) else none) else
      (bif Nat.blt pc 86 then (bif Nat.beq pc 83 then some (.goto (-55), 3, 28, 0, 0, mj_u) else none) else
       (bif Nat.beq pc 86 then some (.aload_n 0, 1, 0, 0, 0, mj_u) else none))) else
     (bif Nat.blt pc 88 then (bif Nat.beq pc 87 then some (.lload_n 1, 1, 1, 0, 0, mj_u) else none) else
      (bif Nat.blt pc 91 then (bif Nat.beq pc 88 then some (.invokevirtual 206, 3, 70, 0, 553, mj_u) else none) else
       (bif Nat.beq pc 91 then some (.lreturn, 1, 0, 0, 0, mj_u) else none))))))
def m_W_digest : mj_M := (55, prog_1_method_31_code, 5, (Option.some Jvm.ClassFile.FieldType.long), 8, 0, 491, 489, 490, 45, 92, k_W_digest)
/-- WatershedMap.digestOfMap(J)J -/
def k_W_digestOfMap : Nat → Option mj_I := fun pc =>
  bif Nat.blt pc 77 then (bif Nat.blt pc 38 then (bif Nat.blt pc 16 then (bif Nat.blt pc 7 then (bif Nat.blt pc 2 then (bif Nat.blt pc 1 then (bif Nat.beq pc 0 then some (.lload_n 1, 1, 1, 0, 0, mj_u) else none) else
       (bif Nat.beq pc 1 then some (.lstore_n 3, 1, 3, 0, 0, mj_u) else none)) else
      (bif Nat.blt pc 3 then (bif Nat.beq pc 2 then some (.iconst 0, 1, 0, 0, 0, .int 0) else none) else
       (bif Nat.blt pc 5 then (bif Nat.beq pc 3 then some (.istore 5, 2, 5, 0, 0, mj_u) else none) else
        (bif Nat.beq pc 5 then some (.iload 5, 2, 5, 0, 0, mj_u) else none)))) else
     (bif Nat.blt pc 11 then (bif Nat.blt pc 8 then (bif Nat.beq pc 7 then some (.iconst 4, 1, 0, 0, 0, .int 4) else none) else
       (bif Nat.beq pc 8 then some (.if_icmp .gt 26, 3, 34, 0, 0, mj_u) else none)) else
      (bif Nat.blt pc 12 then (bif Nat.beq pc 11 then some (.lload_n 3, 1, 3, 0, 0, mj_u) else none) else
       (bif Nat.blt pc 15 then (bif Nat.beq pc 12 then some (.ldc2_w 204, 3, 0, 0, 497, .long 31) else none) else
        (bif Nat.beq pc 15 then some (.lmul, 1, 0, 0, 0, mj_u) else none))))) else
    (bif Nat.blt pc 26 then (bif Nat.blt pc 20 then (bif Nat.blt pc 17 then (bif Nat.beq pc 16 then some (.aload_n 0, 1, 0, 0, 0, mj_u) else none) else
       (bif Nat.beq pc 17 then some (.getfield 10, 3, 8, 0, 296, .null) else none)) else
      (bif Nat.blt pc 22 then (bif Nat.beq pc 20 then some (.iload 5, 2, 5, 0, 0, mj_u) else none) else
       (bif Nat.blt pc 25 then (bif Nat.beq pc 22 then some (.invokevirtual 118, 3, 57, 0, 498, mj_u) else none) else
        (bif Nat.beq pc 25 then some (.i2l, 1, 0, 0, 0, mj_u) else none)))) else
     (bif Nat.blt pc 31 then (bif Nat.blt pc 27 then (bif Nat.beq pc 26 then some (.ladd, 1, 0, 0, 0, mj_u) else none) else
       (bif Nat.blt pc 28 then (bif Nat.beq pc 27 then some (.lstore_n 3, 1, 3, 0, 0, mj_u) else none) else
        (bif Nat.beq pc 28 then some (.iinc 5 1, 3, 5, 0, 0, .int 1) else none))) else
      (bif Nat.blt pc 34 then (bif Nat.beq pc 31 then some (.goto (-26), 3, 5, 0, 0, mj_u) else none) else
       (bif Nat.blt pc 35 then (bif Nat.beq pc 34 then some (.lload_n 3, 1, 3, 0, 0, mj_u) else none) else
        (bif Nat.beq pc 35 then some (.ldc2_w 204, 3, 0, 0, 497, .long 31) else none)))))) else
   (bif Nat.blt pc 59 then (bif Nat.blt pc 48 then (bif Nat.blt pc 40 then (bif Nat.blt pc 39 then (bif Nat.beq pc 38 then some (.lmul, 1, 0, 0, 0, mj_u) else none) else
       (bif Nat.beq pc 39 then some (.aload_n 0, 1, 0, 0, 0, mj_u) else none)) else
      (bif Nat.blt pc 43 then (bif Nat.beq pc 40 then some (.getfield 21, 3, 8, 1, 297, .null) else none) else
       (bif Nat.blt pc 45 then (bif Nat.beq pc 43 then some (.bipush 8, 2, 0, 0, 0, .int 8) else none) else
        (bif Nat.beq pc 45 then some (.invokevirtual 127, 3, 42, 0, 436, mj_u) else none)))) else
     (bif Nat.blt pc 51 then (bif Nat.blt pc 49 then (bif Nat.beq pc 48 then some (.i2l, 1, 0, 0, 0, mj_u) else none) else
       (bif Nat.blt pc 50 then (bif Nat.beq pc 49 then some (.ladd, 1, 0, 0, 0, mj_u) else none) else
        (bif Nat.beq pc 50 then some (.aload_n 0, 1, 0, 0, 0, mj_u) else none))) else
      (bif Nat.blt pc 54 then (bif Nat.beq pc 51 then some (.getfield 21, 3, 8, 1, 297, .null) else none) else
       (bif Nat.blt pc 56 then (bif Nat.beq pc 54 then some (.bipush 9, 2, 0, 0, 0, .int 9) else none) else
        (bif Nat.beq pc 56 then some (.invokevirtual 127, 3, 42, 0, 436, mj_u) else none))))) else
    (bif Nat.blt pc 66 then (bif Nat.blt pc 61 then (bif Nat.blt pc 60 then (bif Nat.beq pc 59 then some (.i2l, 1, 0, 0, 0, mj_u) else none) else
       (bif Nat.beq pc 60 then some (.ladd, 1, 0, 0, 0, mj_u) else none)) else
      (bif Nat.blt pc 62 then (bif Nat.beq pc 61 then some (.lstore_n 3, 1, 3, 0, 0, mj_u) else none) else
       (bif Nat.blt pc 63 then (bif Nat.beq pc 62 then some (.lload_n 3, 1, 3, 0, 0, mj_u) else none) else
        (bif Nat.beq pc 63 then some (.ldc2_w 204, 3, 0, 0, 497, .long 31) else none)))) else
     (bif Nat.blt pc 71 then (bif Nat.blt pc 67 then (bif Nat.beq pc 66 then some (.lmul, 1, 0, 0, 0, mj_u) else none) else
       (bif Nat.blt pc 68 then (bif Nat.beq pc 67 then some (.aload_n 0, 1, 0, 0, 0, mj_u) else none) else
        (bif Nat.beq pc 68 then some (.getfield 21, 3, 8, 1, 297, .null) else none))) else
      (bif Nat.blt pc 73 then (bif Nat.beq pc 71 then some (.bipush 9, 2, 0, 0, 0, .int 9) else none) else
       (bif Nat.blt pc 76 then (bif Nat.beq pc 73 then some (.invokevirtual 127, 3, 42, 0, 436, mj_u) else none) else
        (bif Nat.beq pc 76 then some (.i2l, 1, 0, 0, 0, mj_u) else none))))))) else
  (bif Nat.blt pc 117 then (bif Nat.blt pc 98 then (bif Nat.blt pc 84 then (bif Nat.blt pc 79 then (bif Nat.blt pc 78 then (bif Nat.beq pc 77 then some (.ladd, 1, 0, 0, 0, mj_u) else none) else
       (bif Nat.beq pc 78 then some (.lstore_n 3, 1, 3, 0, 0, mj_u) else none)) else
      (bif Nat.blt pc 80 then (bif Nat.beq pc 79 then some (.lload_n 3, 1, 3, 0, 0, mj_u) else none) else
       (bif Nat.blt pc 83 then (bif Nat.beq pc 80 then some (.ldc2_w 204, 3, 0, 0, 497, .long 31) else none) else
        (bif Nat.beq pc 83 then some (.lmul, 1, 0, 0, 0, mj_u) else none)))) else
     (bif Nat.blt pc 89 then (bif Nat.blt pc 85 then (bif Nat.beq pc 84 then some (.aload_n 0, 1, 0, 0, 0, mj_u) else none) else
       (bif Nat.blt pc 88 then (bif Nat.beq pc 85 then some (.getfield 21, 3, 8, 1, 297, .null) else none) else
        (bif Nat.beq pc 88 then some (.aload_n 0, 1, 0, 0, 0, mj_u) else none))) else
      (bif Nat.blt pc 92 then (bif Nat.beq pc 89 then some (.getfield 21, 3, 8, 1, 297, .null) else none) else
       (bif Nat.blt pc 95 then (bif Nat.beq pc 92 then some (.getfield 130, 3, 6, 6, 137, .null) else none) else
        (bif Nat.beq pc 95 then some (.invokevirtual 133, 3, 45, 0, 448, mj_u) else none))))) else
    (bif Nat.blt pc 105 then (bif Nat.blt pc 100 then (bif Nat.blt pc 99 then (bif Nat.beq pc 98 then some (.i2l, 1, 0, 0, 0, mj_u) else none) else
       (bif Nat.beq pc 99 then some (.ladd, 1, 0, 0, 0, mj_u) else none)) else
      (bif Nat.blt pc 101 then (bif Nat.beq pc 100 then some (.lstore_n 3, 1, 3, 0, 0, mj_u) else none) else
       (bif Nat.blt pc 102 then (bif Nat.beq pc 101 then some (.lload_n 3, 1, 3, 0, 0, mj_u) else none) else
        (bif Nat.beq pc 102 then some (.ldc2_w 204, 3, 0, 0, 497, .long 31) else none)))) else
     (bif Nat.blt pc 110 then (bif Nat.blt pc 106 then (bif Nat.beq pc 105 then some (.lmul, 1, 0, 0, 0, mj_u) else none) else
       (bif Nat.blt pc 107 then (bif Nat.beq pc 106 then some (.aload_n 0, 1, 0, 0, 0, mj_u) else none) else
        (bif Nat.beq pc 107 then some (.getfield 21, 3, 8, 1, 297, .null) else none))) else
      (bif Nat.blt pc 111 then (bif Nat.beq pc 110 then some (.aload_n 0, 1, 0, 0, 0, mj_u) else none) else
       (bif Nat.blt pc 114 then (bif Nat.beq pc 111 then some (.getfield 21, 3, 8, 1, 297, .null) else none) else
        (bif Nat.beq pc 114 then some (.getfield 136, 3, 6, 7, 139, .null) else none)))))) else
   (bif Nat.blt pc 136 then (bif Nat.blt pc 124 then (bif Nat.blt pc 121 then (bif Nat.blt pc 120 then (bif Nat.beq pc 117 then some (.invokevirtual 133, 3, 45, 0, 448, mj_u) else none) else
       (bif Nat.beq pc 120 then some (.i2l, 1, 0, 0, 0, mj_u) else none)) else
      (bif Nat.blt pc 122 then (bif Nat.beq pc 121 then some (.ladd, 1, 0, 0, 0, mj_u) else none) else
       (bif Nat.blt pc 123 then (bif Nat.beq pc 122 then some (.lstore_n 3, 1, 3, 0, 0, mj_u) else none) else
        (bif Nat.beq pc 123 then some (.lload_n 3, 1, 3, 0, 0, mj_u) else none)))) else
     (bif Nat.blt pc 129 then (bif Nat.blt pc 127 then (bif Nat.beq pc 124 then some (.ldc2_w 204, 3, 0, 0, 497, .long 31) else none) else
       (bif Nat.blt pc 128 then (bif Nat.beq pc 127 then some (.lmul, 1, 0, 0, 0, mj_u) else none) else
        (bif Nat.beq pc 128 then some (.aload_n 0, 1, 0, 0, 0, mj_u) else none))) else
      (bif Nat.blt pc 132 then (bif Nat.beq pc 129 then some (.getfield 28, 3, 8, 2, 298, .null) else none) else
       (bif Nat.blt pc 135 then (bif Nat.beq pc 132 then some (.getfield 139, 3, 3, 4, 205, .int 0) else none) else
        (bif Nat.beq pc 135 then some (.i2l, 1, 0, 0, 0, mj_u) else none))))) else
    (bif Nat.blt pc 143 then (bif Nat.blt pc 138 then (bif Nat.blt pc 137 then (bif Nat.beq pc 136 then some (.ladd, 1, 0, 0, 0, mj_u) else none) else
       (bif Nat.beq pc 137 then some (.lstore_n 3, 1, 3, 0, 0, mj_u) else none)) else
      (bif Nat.blt pc 139 then (bif Nat.beq pc 138 then some (.lload_n 3, 1, 3, 0, 0, mj_u) else none) else
       (bif Nat.blt pc 142 then (bif Nat.beq pc 139 then some (.ldc2_w 204, 3, 0, 0, 497, .long 31) else none) else
        (bif Nat.beq pc 142 then some (.lmul, 1, 0, 0, 0, mj_u) else none)))) else
     (bif Nat.blt pc 150 then (bif Nat.blt pc 144 then (bif Nat.beq pc 143 then some (.aload_n 0, 1, 0, 0, 0, mj_u) else none) else
       (bif Nat.blt pc 147 then (bif Nat.beq pc 144 then some (.getfield 28, 3, 8, 2, 298, .null) else none) else
        (bif Nat.beq pc 147 then some (.invokevirtual 148, 3, 49, 0, 464, mj_u) else none))) else
      (bif Nat.blt pc 151 then (bif Nat.beq pc 150 then some (.i2l, 1, 0, 0, 0, mj_u) else none) else
       (bif Nat.blt pc 152 then (bif Nat.beq pc 151 then some (.ladd, 1, 0, 0, 0, mj_u) else none) else
        (bif Nat.beq pc 152 then some (.lreturn, 1, 0, 0, 0, mj_u) else none)))))))
def m_W_digestOfMap : mj_M := (56, prog_1_method_32_code, 6, (Option.some Jvm.ClassFile.FieldType.long), 8, 1, 496, 495, 12, 45, 153, k_W_digestOfMap)
/-- WatershedMap$Land.told(I)I -/
def k_Land_told : Nat → Option mj_I := fun pc =>
  bif Nat.blt pc 42 then (bif Nat.blt pc 36 then (bif Nat.blt pc 32 then (bif Nat.blt pc 1 then (bif Nat.beq pc 0 then some (.iload_n 1, 1, 1, 0, 0, mj_u) else none) else
     (bif Nat.beq pc 1 then some (.tableswitch 51 0 3 #[31, 36, 41, 46], 31, 52, 0, 0, mj_u) else none)) else
    (bif Nat.blt pc 33 then (bif Nat.beq pc 32 then some (.aload_n 0, 1, 0, 0, 0, mj_u) else none) else
     (bif Nat.beq pc 33 then some (.getfield 21, 3, 4, 3, 95, .int 0) else none))) else
   (bif Nat.blt pc 38 then (bif Nat.blt pc 37 then (bif Nat.beq pc 36 then some (.ireturn, 1, 0, 0, 0, mj_u) else none) else
     (bif Nat.beq pc 37 then some (.aload_n 0, 1, 0, 0, 0, mj_u) else none)) else
    (bif Nat.blt pc 41 then (bif Nat.beq pc 38 then some (.getfield 25, 3, 4, 4, 99, .int 0) else none) else
     (bif Nat.beq pc 41 then some (.ireturn, 1, 0, 0, 0, mj_u) else none)))) else
  (bif Nat.blt pc 48 then (bif Nat.blt pc 46 then (bif Nat.blt pc 43 then (bif Nat.beq pc 42 then some (.aload_n 0, 1, 0, 0, 0, mj_u) else none) else
     (bif Nat.beq pc 43 then some (.invokevirtual 64, 3, 58, 0, 502, mj_u) else none)) else
    (bif Nat.blt pc 47 then (bif Nat.beq pc 46 then some (.ireturn, 1, 0, 0, 0, mj_u) else none) else
     (bif Nat.beq pc 47 then some (.aload_n 0, 1, 0, 0, 0, mj_u) else none))) else
   (bif Nat.blt pc 52 then (bif Nat.blt pc 51 then (bif Nat.beq pc 48 then some (.invokevirtual 68, 3, 60, 0, 509, mj_u) else none) else
     (bif Nat.beq pc 51 then some (.ireturn, 1, 0, 0, 0, mj_u) else none)) else
    (bif Nat.blt pc 53 then (bif Nat.beq pc 52 then some (.aload_n 0, 1, 0, 0, 0, mj_u) else none) else
     (bif Nat.blt pc 56 then (bif Nat.beq pc 53 then some (.invokevirtual 71, 3, 61, 0, 513, mj_u) else none) else
      (bif Nat.beq pc 56 then some (.ireturn, 1, 0, 0, 0, mj_u) else none)))))
def m_Land_told : mj_M := (57, prog_6_method_11_code, 2, (Option.some Jvm.ClassFile.FieldType.int), 4, 1, 501, 499, 500, 46, 57, k_Land_told)
/-- WatershedMap$Land.lowest()I -/
def k_Land_lowest : Nat → Option mj_I := fun pc =>
  bif Nat.blt pc 15 then (bif Nat.blt pc 6 then (bif Nat.blt pc 4 then (bif Nat.blt pc 3 then (bif Nat.beq pc 0 then some (.sipush 999, 3, 0, 0, 0, .int 999) else none) else
     (bif Nat.beq pc 3 then some (.istore_n 1, 1, 1, 0, 0, mj_u) else none)) else
    (bif Nat.blt pc 5 then (bif Nat.beq pc 4 then some (.iconst 0, 1, 0, 0, 0, .int 0) else none) else
     (bif Nat.beq pc 5 then some (.istore_n 2, 1, 2, 0, 0, mj_u) else none))) else
   (bif Nat.blt pc 8 then (bif Nat.blt pc 7 then (bif Nat.beq pc 6 then some (.iload_n 2, 1, 2, 0, 0, mj_u) else none) else
     (bif Nat.beq pc 7 then some (.aload_n 0, 1, 0, 0, 0, mj_u) else none)) else
    (bif Nat.blt pc 11 then (bif Nat.beq pc 8 then some (.getfield 28, 3, 4, 5, 103, .int 0) else none) else
     (bif Nat.blt pc 14 then (bif Nat.beq pc 11 then some (.if_icmp .ge 20, 3, 31, 0, 0, mj_u) else none) else
      (bif Nat.beq pc 14 then some (.iload_n 1, 1, 1, 0, 0, mj_u) else none))))) else
  (bif Nat.blt pc 24 then (bif Nat.blt pc 19 then (bif Nat.blt pc 16 then (bif Nat.beq pc 15 then some (.aload_n 0, 1, 0, 0, 0, mj_u) else none) else
     (bif Nat.beq pc 16 then some (.getfield 9, 3, 4, 0, 87, .null) else none)) else
    (bif Nat.blt pc 20 then (bif Nat.beq pc 19 then some (.iload_n 2, 1, 2, 0, 0, mj_u) else none) else
     (bif Nat.blt pc 21 then (bif Nat.beq pc 20 then some (.iaload, 1, 0, 0, 0, mj_u) else none) else
      (bif Nat.beq pc 21 then some (.invokestatic 74, 3, 59, 0, 506, mj_u) else none)))) else
   (bif Nat.blt pc 28 then (bif Nat.blt pc 25 then (bif Nat.beq pc 24 then some (.istore_n 1, 1, 1, 0, 0, mj_u) else none) else
     (bif Nat.beq pc 25 then some (.iinc 2 1, 3, 2, 0, 0, .int 1) else none)) else
    (bif Nat.blt pc 31 then (bif Nat.beq pc 28 then some (.goto (-22), 3, 6, 0, 0, mj_u) else none) else
     (bif Nat.blt pc 32 then (bif Nat.beq pc 31 then some (.iload_n 1, 1, 1, 0, 0, mj_u) else none) else
      (bif Nat.beq pc 32 then some (.ireturn, 1, 0, 0, 0, mj_u) else none)))))
def m_Land_lowest : mj_M := (58, prog_6_method_12_code, 3, (Option.some Jvm.ClassFile.FieldType.int), 4, 0, 505, 504, 13, 46, 33, k_Land_lowest)
/-- java/lang/Math.min(II)I static -/
def k_Math_min : Nat → Option mj_I := fun pc =>
  bif Nat.blt pc 5 then (bif Nat.blt pc 1 then (bif Nat.beq pc 0 then some (.iload_n 0, 1, 0, 0, 0, mj_u) else none) else
   (bif Nat.blt pc 2 then (bif Nat.beq pc 1 then some (.iload_n 1, 1, 1, 0, 0, mj_u) else none) else
    (bif Nat.beq pc 2 then some (.if_icmp .gt 7, 3, 9, 0, 0, mj_u) else none))) else
  (bif Nat.blt pc 9 then (bif Nat.blt pc 6 then (bif Nat.beq pc 5 then some (.iload_n 0, 1, 0, 0, 0, mj_u) else none) else
    (bif Nat.beq pc 6 then some (.goto 4, 3, 10, 0, 0, mj_u) else none)) else
   (bif Nat.blt pc 10 then (bif Nat.beq pc 9 then some (.iload_n 1, 1, 1, 0, 0, mj_u) else none) else
    (bif Nat.beq pc 10 then some (.ireturn, 1, 0, 0, 0, mj_u) else none)))
def m_Math_min : mj_M := (59, prog_22_method_69_code, 2, (Option.some Jvm.ClassFile.FieldType.int), 12, 2, 508, 507, 0, 62, 11, k_Math_min)
/-- WatershedMap$Land.greatest()I -/
def k_Land_greatest : Nat → Option mj_I := fun pc =>
  bif Nat.blt pc 13 then (bif Nat.blt pc 4 then (bif Nat.blt pc 2 then (bif Nat.blt pc 1 then (bif Nat.beq pc 0 then some (.iconst 0, 1, 0, 0, 0, .int 0) else none) else
     (bif Nat.beq pc 1 then some (.istore_n 1, 1, 1, 0, 0, mj_u) else none)) else
    (bif Nat.blt pc 3 then (bif Nat.beq pc 2 then some (.iconst 0, 1, 0, 0, 0, .int 0) else none) else
     (bif Nat.beq pc 3 then some (.istore_n 2, 1, 2, 0, 0, mj_u) else none))) else
   (bif Nat.blt pc 6 then (bif Nat.blt pc 5 then (bif Nat.beq pc 4 then some (.iload_n 2, 1, 2, 0, 0, mj_u) else none) else
     (bif Nat.beq pc 5 then some (.aload_n 0, 1, 0, 0, 0, mj_u) else none)) else
    (bif Nat.blt pc 9 then (bif Nat.beq pc 6 then some (.getfield 28, 3, 4, 5, 103, .int 0) else none) else
     (bif Nat.blt pc 12 then (bif Nat.beq pc 9 then some (.if_icmp .ge 20, 3, 29, 0, 0, mj_u) else none) else
      (bif Nat.beq pc 12 then some (.iload_n 1, 1, 1, 0, 0, mj_u) else none))))) else
  (bif Nat.blt pc 22 then (bif Nat.blt pc 17 then (bif Nat.blt pc 14 then (bif Nat.beq pc 13 then some (.aload_n 0, 1, 0, 0, 0, mj_u) else none) else
     (bif Nat.beq pc 14 then some (.getfield 9, 3, 4, 0, 87, .null) else none)) else
    (bif Nat.blt pc 18 then (bif Nat.beq pc 17 then some (.iload_n 2, 1, 2, 0, 0, mj_u) else none) else
     (bif Nat.blt pc 19 then (bif Nat.beq pc 18 then some (.iaload, 1, 0, 0, 0, mj_u) else none) else
      (bif Nat.beq pc 19 then some (.invokestatic 77, 3, 26, 0, 487, mj_u) else none)))) else
   (bif Nat.blt pc 26 then (bif Nat.blt pc 23 then (bif Nat.beq pc 22 then some (.istore_n 1, 1, 1, 0, 0, mj_u) else none) else
     (bif Nat.beq pc 23 then some (.iinc 2 1, 3, 2, 0, 0, .int 1) else none)) else
    (bif Nat.blt pc 29 then (bif Nat.beq pc 26 then some (.goto (-22), 3, 4, 0, 0, mj_u) else none) else
     (bif Nat.blt pc 30 then (bif Nat.beq pc 29 then some (.iload_n 1, 1, 1, 0, 0, mj_u) else none) else
      (bif Nat.beq pc 30 then some (.ireturn, 1, 0, 0, 0, mj_u) else none)))))
def m_Land_greatest : mj_M := (60, prog_6_method_13_code, 3, (Option.some Jvm.ClassFile.FieldType.int), 4, 0, 512, 510, 511, 46, 31, k_Land_greatest)
/-- WatershedMap$Land.sum()I -/
def k_Land_sum : Nat → Option mj_I := fun pc =>
  bif Nat.blt pc 13 then (bif Nat.blt pc 4 then (bif Nat.blt pc 2 then (bif Nat.blt pc 1 then (bif Nat.beq pc 0 then some (.iconst 0, 1, 0, 0, 0, .int 0) else none) else
     (bif Nat.beq pc 1 then some (.istore_n 1, 1, 1, 0, 0, mj_u) else none)) else
    (bif Nat.blt pc 3 then (bif Nat.beq pc 2 then some (.iconst 0, 1, 0, 0, 0, .int 0) else none) else
     (bif Nat.beq pc 3 then some (.istore_n 2, 1, 2, 0, 0, mj_u) else none))) else
   (bif Nat.blt pc 6 then (bif Nat.blt pc 5 then (bif Nat.beq pc 4 then some (.iload_n 2, 1, 2, 0, 0, mj_u) else none) else
     (bif Nat.beq pc 5 then some (.aload_n 0, 1, 0, 0, 0, mj_u) else none)) else
    (bif Nat.blt pc 9 then (bif Nat.beq pc 6 then some (.getfield 28, 3, 4, 5, 103, .int 0) else none) else
     (bif Nat.blt pc 12 then (bif Nat.beq pc 9 then some (.if_icmp .ge 18, 3, 27, 0, 0, mj_u) else none) else
      (bif Nat.beq pc 12 then some (.iload_n 1, 1, 1, 0, 0, mj_u) else none))))) else
  (bif Nat.blt pc 20 then (bif Nat.blt pc 17 then (bif Nat.blt pc 14 then (bif Nat.beq pc 13 then some (.aload_n 0, 1, 0, 0, 0, mj_u) else none) else
     (bif Nat.beq pc 14 then some (.getfield 9, 3, 4, 0, 87, .null) else none)) else
    (bif Nat.blt pc 18 then (bif Nat.beq pc 17 then some (.iload_n 2, 1, 2, 0, 0, mj_u) else none) else
     (bif Nat.blt pc 19 then (bif Nat.beq pc 18 then some (.iaload, 1, 0, 0, 0, mj_u) else none) else
      (bif Nat.beq pc 19 then some (.iadd, 1, 0, 0, 0, mj_u) else none)))) else
   (bif Nat.blt pc 24 then (bif Nat.blt pc 21 then (bif Nat.beq pc 20 then some (.istore_n 1, 1, 1, 0, 0, mj_u) else none) else
     (bif Nat.beq pc 21 then some (.iinc 2 1, 3, 2, 0, 0, .int 1) else none)) else
    (bif Nat.blt pc 27 then (bif Nat.beq pc 24 then some (.goto (-20), 3, 4, 0, 0, mj_u) else none) else
     (bif Nat.blt pc 28 then (bif Nat.beq pc 27 then some (.iload_n 1, 1, 1, 0, 0, mj_u) else none) else
      (bif Nat.beq pc 28 then some (.ireturn, 1, 0, 0, 0, mj_u) else none)))))
def m_Land_sum : mj_M := (61, prog_6_method_14_code, 3, (Option.some Jvm.ClassFile.FieldType.int), 4, 0, 516, 515, 14, 46, 29, k_Land_sum)
/-- WatershedMap$Contours.draw(I)V -/
def k_Contours_draw : Nat → Option mj_I := fun pc =>
  bif Nat.blt pc 47 then (bif Nat.blt pc 25 then (bif Nat.blt pc 12 then (bif Nat.blt pc 7 then (bif Nat.blt pc 1 then (bif Nat.beq pc 0 then some (.aload_n 0, 1, 0, 0, 0, mj_u) else none) else
      (bif Nat.blt pc 4 then (bif Nat.beq pc 1 then some (.getfield 18, 3, 0, 2, 227, .null) else none) else
       (bif Nat.beq pc 4 then some (.invokevirtual 26, 3, 27, 0, 523, mj_u) else none))) else
     (bif Nat.blt pc 8 then (bif Nat.beq pc 7 then some (.aload_n 0, 1, 0, 0, 0, mj_u) else none) else
      (bif Nat.blt pc 11 then (bif Nat.beq pc 8 then some (.getfield 9, 3, 0, 1, 226, .null) else none) else
       (bif Nat.beq pc 11 then some (.iconst (-1), 1, 0, 0, 0, .int (-1)) else none)))) else
    (bif Nat.blt pc 17 then (bif Nat.blt pc 15 then (bif Nat.beq pc 12 then some (.invokestatic 29, 3, 10, 0, 524, mj_u) else none) else
      (bif Nat.blt pc 16 then (bif Nat.beq pc 15 then some (.aload_n 0, 1, 0, 0, 0, mj_u) else none) else
       (bif Nat.beq pc 16 then some (.iconst 0, 1, 0, 0, 0, .int 0) else none))) else
     (bif Nat.blt pc 21 then (bif Nat.blt pc 20 then (bif Nat.beq pc 17 then some (.putfield 35, 3, 0, 3, 228, .int 0) else none) else
       (bif Nat.beq pc 20 then some (.aload_n 0, 1, 0, 0, 0, mj_u) else none)) else
      (bif Nat.blt pc 22 then (bif Nat.beq pc 21 then some (.iconst 0, 1, 0, 0, 0, .int 0) else none) else
       (bif Nat.beq pc 22 then some (.putfield 39, 3, 0, 4, 229, .int 0) else none))))) else
   (bif Nat.blt pc 34 then (bif Nat.blt pc 30 then (bif Nat.blt pc 26 then (bif Nat.beq pc 25 then some (.aload_n 0, 1, 0, 0, 0, mj_u) else none) else
      (bif Nat.blt pc 27 then (bif Nat.beq pc 26 then some (.iconst 0, 1, 0, 0, 0, .int 0) else none) else
       (bif Nat.beq pc 27 then some (.putfield 42, 3, 0, 5, 230, .int 0) else none))) else
     (bif Nat.blt pc 32 then (bif Nat.blt pc 31 then (bif Nat.beq pc 30 then some (.iconst 0, 1, 0, 0, 0, .int 0) else none) else
       (bif Nat.beq pc 31 then some (.istore_n 2, 1, 2, 0, 0, mj_u) else none)) else
      (bif Nat.blt pc 33 then (bif Nat.beq pc 32 then some (.iload_n 2, 1, 2, 0, 0, mj_u) else none) else
       (bif Nat.beq pc 33 then some (.aload_n 0, 1, 0, 0, 0, mj_u) else none)))) else
    (bif Nat.blt pc 41 then (bif Nat.blt pc 37 then (bif Nat.beq pc 34 then some (.getfield 22, 3, 0, 0, 225, .null) else none) else
      (bif Nat.blt pc 40 then (bif Nat.beq pc 37 then some (.getfield 45, 3, 4, 4, 100, .int 0) else none) else
       (bif Nat.beq pc 40 then some (.iconst 1, 1, 0, 0, 0, .int 1) else none))) else
     (bif Nat.blt pc 45 then (bif Nat.blt pc 42 then (bif Nat.beq pc 41 then some (.isub, 1, 0, 0, 0, mj_u) else none) else
       (bif Nat.beq pc 42 then some (.if_icmp .ge 55, 3, 97, 0, 0, mj_u) else none)) else
      (bif Nat.blt pc 46 then (bif Nat.beq pc 45 then some (.iconst 0, 1, 0, 0, 0, .int 0) else none) else
       (bif Nat.beq pc 46 then some (.istore_n 3, 1, 3, 0, 0, mj_u) else none)))))) else
  (bif Nat.blt pc 70 then (bif Nat.blt pc 57 then (bif Nat.blt pc 52 then (bif Nat.blt pc 48 then (bif Nat.beq pc 47 then some (.iload_n 3, 1, 3, 0, 0, mj_u) else none) else
      (bif Nat.blt pc 49 then (bif Nat.beq pc 48 then some (.aload_n 0, 1, 0, 0, 0, mj_u) else none) else
       (bif Nat.beq pc 49 then some (.getfield 22, 3, 0, 0, 225, .null) else none))) else
     (bif Nat.blt pc 55 then (bif Nat.beq pc 52 then some (.getfield 50, 3, 4, 3, 96, .int 0) else none) else
      (bif Nat.blt pc 56 then (bif Nat.beq pc 55 then some (.iconst 1, 1, 0, 0, 0, .int 1) else none) else
       (bif Nat.beq pc 56 then some (.isub, 1, 0, 0, 0, mj_u) else none)))) else
    (bif Nat.blt pc 62 then (bif Nat.blt pc 60 then (bif Nat.beq pc 57 then some (.if_icmp .ge 34, 3, 91, 0, 0, mj_u) else none) else
      (bif Nat.blt pc 61 then (bif Nat.beq pc 60 then some (.aload_n 0, 1, 0, 0, 0, mj_u) else none) else
       (bif Nat.beq pc 61 then some (.aload_n 0, 1, 0, 0, 0, mj_u) else none))) else
     (bif Nat.blt pc 66 then (bif Nat.blt pc 65 then (bif Nat.beq pc 62 then some (.getfield 22, 3, 0, 0, 225, .null) else none) else
       (bif Nat.beq pc 65 then some (.iload_n 3, 1, 3, 0, 0, mj_u) else none)) else
      (bif Nat.blt pc 67 then (bif Nat.beq pc 66 then some (.iload_n 2, 1, 2, 0, 0, mj_u) else none) else
       (bif Nat.beq pc 67 then some (.invokevirtual 53, 3, 12, 0, 525, mj_u) else none))))) else
   (bif Nat.blt pc 81 then (bif Nat.blt pc 75 then (bif Nat.blt pc 71 then (bif Nat.beq pc 70 then some (.aload_n 0, 1, 0, 0, 0, mj_u) else none) else
      (bif Nat.blt pc 74 then (bif Nat.beq pc 71 then some (.getfield 22, 3, 0, 0, 225, .null) else none) else
       (bif Nat.beq pc 74 then some (.iload_n 3, 1, 3, 0, 0, mj_u) else none))) else
     (bif Nat.blt pc 77 then (bif Nat.blt pc 76 then (bif Nat.beq pc 75 then some (.iload_n 2, 1, 2, 0, 0, mj_u) else none) else
       (bif Nat.beq pc 76 then some (.iconst 1, 1, 0, 0, 0, .int 1) else none)) else
      (bif Nat.blt pc 78 then (bif Nat.beq pc 77 then some (.iadd, 1, 0, 0, 0, mj_u) else none) else
       (bif Nat.beq pc 78 then some (.invokevirtual 53, 3, 12, 0, 525, mj_u) else none)))) else
    (bif Nat.blt pc 88 then (bif Nat.blt pc 82 then (bif Nat.beq pc 81 then some (.iload_n 1, 1, 1, 0, 0, mj_u) else none) else
      (bif Nat.blt pc 85 then (bif Nat.beq pc 82 then some (.invokevirtual 57, 3, 63, 0, 526, mj_u) else none) else
       (bif Nat.beq pc 85 then some (.iinc 3 1, 3, 3, 0, 0, .int 1) else none))) else
     (bif Nat.blt pc 94 then (bif Nat.blt pc 91 then (bif Nat.beq pc 88 then some (.goto (-41), 3, 47, 0, 0, mj_u) else none) else
       (bif Nat.beq pc 91 then some (.iinc 2 1, 3, 2, 0, 0, .int 1) else none)) else
      (bif Nat.blt pc 97 then (bif Nat.beq pc 94 then some (.goto (-62), 3, 32, 0, 0, mj_u) else none) else
       (bif Nat.beq pc 97 then some (.return_, 1, 0, 0, 0, mj_u) else none))))))
def m_Contours_draw : mj_M := (62, prog_2_method_2_code, 4, (Option.none : Option Jvm.ClassFile.FieldType), 0, 1, 522, 520, 521, 51, 98, k_Contours_draw)
/-- WatershedMap$Contours.drawSquare(III)V -/
def k_Contours_drawSquare : Nat → Option mj_I := fun pc =>
  bif Nat.blt pc 135 then (bif Nat.blt pc 63 then (bif Nat.blt pc 31 then (bif Nat.blt pc 17 then (bif Nat.blt pc 8 then (bif Nat.blt pc 4 then (bif Nat.blt pc 1 then (bif Nat.beq pc 0 then some (.aload_n 0, 1, 0, 0, 0, mj_u) else none) else
        (bif Nat.beq pc 1 then some (.getfield 22, 3, 0, 0, 225, .null) else none)) else
       (bif Nat.blt pc 7 then (bif Nat.beq pc 4 then some (.getfield 61, 3, 4, 0, 89, .null) else none) else
        (bif Nat.beq pc 7 then some (.iload_n 1, 1, 1, 0, 0, mj_u) else none))) else
      (bif Nat.blt pc 10 then (bif Nat.blt pc 9 then (bif Nat.beq pc 8 then some (.iaload, 1, 0, 0, 0, mj_u) else none) else
        (bif Nat.beq pc 9 then some (.iload_n 3, 1, 3, 0, 0, mj_u) else none)) else
       (bif Nat.blt pc 13 then (bif Nat.beq pc 10 then some (.if_icmp .le 7, 3, 17, 0, 0, mj_u) else none) else
        (bif Nat.blt pc 14 then (bif Nat.beq pc 13 then some (.iconst 1, 1, 0, 0, 0, .int 1) else none) else
         (bif Nat.beq pc 14 then some (.goto 4, 3, 18, 0, 0, mj_u) else none))))) else
     (bif Nat.blt pc 24 then (bif Nat.blt pc 20 then (bif Nat.blt pc 18 then (bif Nat.beq pc 17 then some (.iconst 0, 1, 0, 0, 0, .int 0) else none) else
        (bif Nat.beq pc 18 then some (.istore 4, 2, 4, 0, 0, mj_u) else none)) else
       (bif Nat.blt pc 21 then (bif Nat.beq pc 20 then some (.aload_n 0, 1, 0, 0, 0, mj_u) else none) else
        (bif Nat.beq pc 21 then some (.getfield 22, 3, 0, 0, 225, .null) else none))) else
      (bif Nat.blt pc 28 then (bif Nat.blt pc 27 then (bif Nat.beq pc 24 then some (.getfield 61, 3, 4, 0, 89, .null) else none) else
        (bif Nat.beq pc 27 then some (.iload_n 1, 1, 1, 0, 0, mj_u) else none)) else
       (bif Nat.blt pc 29 then (bif Nat.beq pc 28 then some (.iconst 1, 1, 0, 0, 0, .int 1) else none) else
        (bif Nat.blt pc 30 then (bif Nat.beq pc 29 then some (.iadd, 1, 0, 0, 0, mj_u) else none) else
         (bif Nat.beq pc 30 then some (.iaload, 1, 0, 0, 0, mj_u) else none)))))) else
    (bif Nat.blt pc 49 then (bif Nat.blt pc 39 then (bif Nat.blt pc 35 then (bif Nat.blt pc 32 then (bif Nat.beq pc 31 then some (.iload_n 3, 1, 3, 0, 0, mj_u) else none) else
        (bif Nat.beq pc 32 then some (.if_icmp .le 7, 3, 39, 0, 0, mj_u) else none)) else
       (bif Nat.blt pc 36 then (bif Nat.beq pc 35 then some (.iconst 1, 1, 0, 0, 0, .int 1) else none) else
        (bif Nat.beq pc 36 then some (.goto 4, 3, 40, 0, 0, mj_u) else none))) else
      (bif Nat.blt pc 42 then (bif Nat.blt pc 40 then (bif Nat.beq pc 39 then some (.iconst 0, 1, 0, 0, 0, .int 0) else none) else
        (bif Nat.beq pc 40 then some (.istore 5, 2, 5, 0, 0, mj_u) else none)) else
       (bif Nat.blt pc 43 then (bif Nat.beq pc 42 then some (.aload_n 0, 1, 0, 0, 0, mj_u) else none) else
        (bif Nat.blt pc 46 then (bif Nat.beq pc 43 then some (.getfield 22, 3, 0, 0, 225, .null) else none) else
         (bif Nat.beq pc 46 then some (.getfield 61, 3, 4, 0, 89, .null) else none))))) else
     (bif Nat.blt pc 55 then (bif Nat.blt pc 51 then (bif Nat.blt pc 50 then (bif Nat.beq pc 49 then some (.iload_n 2, 1, 2, 0, 0, mj_u) else none) else
        (bif Nat.beq pc 50 then some (.iaload, 1, 0, 0, 0, mj_u) else none)) else
       (bif Nat.blt pc 52 then (bif Nat.beq pc 51 then some (.iload_n 3, 1, 3, 0, 0, mj_u) else none) else
        (bif Nat.beq pc 52 then some (.if_icmp .le 7, 3, 59, 0, 0, mj_u) else none))) else
      (bif Nat.blt pc 59 then (bif Nat.blt pc 56 then (bif Nat.beq pc 55 then some (.iconst 1, 1, 0, 0, 0, .int 1) else none) else
        (bif Nat.beq pc 56 then some (.goto 4, 3, 60, 0, 0, mj_u) else none)) else
       (bif Nat.blt pc 60 then (bif Nat.beq pc 59 then some (.iconst 0, 1, 0, 0, 0, .int 0) else none) else
        (bif Nat.blt pc 62 then (bif Nat.beq pc 60 then some (.istore 6, 2, 6, 0, 0, mj_u) else none) else
         (bif Nat.beq pc 62 then some (.aload_n 0, 1, 0, 0, 0, mj_u) else none))))))) else
   (bif Nat.blt pc 98 then (bif Nat.blt pc 78 then (bif Nat.blt pc 71 then (bif Nat.blt pc 69 then (bif Nat.blt pc 66 then (bif Nat.beq pc 63 then some (.getfield 22, 3, 0, 0, 225, .null) else none) else
        (bif Nat.beq pc 66 then some (.getfield 61, 3, 4, 0, 89, .null) else none)) else
       (bif Nat.blt pc 70 then (bif Nat.beq pc 69 then some (.iload_n 2, 1, 2, 0, 0, mj_u) else none) else
        (bif Nat.beq pc 70 then some (.iconst 1, 1, 0, 0, 0, .int 1) else none))) else
      (bif Nat.blt pc 73 then (bif Nat.blt pc 72 then (bif Nat.beq pc 71 then some (.iadd, 1, 0, 0, 0, mj_u) else none) else
        (bif Nat.beq pc 72 then some (.iaload, 1, 0, 0, 0, mj_u) else none)) else
       (bif Nat.blt pc 74 then (bif Nat.beq pc 73 then some (.iload_n 3, 1, 3, 0, 0, mj_u) else none) else
        (bif Nat.blt pc 77 then (bif Nat.beq pc 74 then some (.if_icmp .le 7, 3, 81, 0, 0, mj_u) else none) else
         (bif Nat.beq pc 77 then some (.iconst 1, 1, 0, 0, 0, .int 1) else none))))) else
     (bif Nat.blt pc 86 then (bif Nat.blt pc 82 then (bif Nat.blt pc 81 then (bif Nat.beq pc 78 then some (.goto 4, 3, 82, 0, 0, mj_u) else none) else
        (bif Nat.beq pc 81 then some (.iconst 0, 1, 0, 0, 0, .int 0) else none)) else
       (bif Nat.blt pc 84 then (bif Nat.beq pc 82 then some (.istore 7, 2, 7, 0, 0, mj_u) else none) else
        (bif Nat.beq pc 84 then some (.iload 4, 2, 4, 0, 0, mj_u) else none))) else
      (bif Nat.blt pc 91 then (bif Nat.blt pc 88 then (bif Nat.beq pc 86 then some (.iload 5, 2, 5, 0, 0, mj_u) else none) else
        (bif Nat.beq pc 88 then some (.if_icmp .eq 10, 3, 98, 0, 0, mj_u) else none)) else
       (bif Nat.blt pc 92 then (bif Nat.beq pc 91 then some (.iload_n 1, 1, 1, 0, 0, mj_u) else none) else
        (bif Nat.blt pc 95 then (bif Nat.beq pc 92 then some (.invokestatic 64, 3, 64, 0, 530, mj_u) else none) else
         (bif Nat.beq pc 95 then some (.goto 4, 3, 99, 0, 0, mj_u) else none)))))) else
    (bif Nat.blt pc 114 then (bif Nat.blt pc 105 then (bif Nat.blt pc 101 then (bif Nat.blt pc 99 then (bif Nat.beq pc 98 then some (.iconst (-1), 1, 0, 0, 0, .int (-1)) else none) else
        (bif Nat.beq pc 99 then some (.istore 8, 2, 8, 0, 0, mj_u) else none)) else
       (bif Nat.blt pc 103 then (bif Nat.beq pc 101 then some (.iload 5, 2, 5, 0, 0, mj_u) else none) else
        (bif Nat.beq pc 103 then some (.iload 7, 2, 7, 0, 0, mj_u) else none))) else
      (bif Nat.blt pc 109 then (bif Nat.blt pc 108 then (bif Nat.beq pc 105 then some (.if_icmp .eq 12, 3, 117, 0, 0, mj_u) else none) else
        (bif Nat.beq pc 108 then some (.iload_n 1, 1, 1, 0, 0, mj_u) else none)) else
       (bif Nat.blt pc 110 then (bif Nat.beq pc 109 then some (.iconst 1, 1, 0, 0, 0, .int 1) else none) else
        (bif Nat.blt pc 111 then (bif Nat.beq pc 110 then some (.iadd, 1, 0, 0, 0, mj_u) else none) else
         (bif Nat.beq pc 111 then some (.invokestatic 68, 3, 65, 0, 533, mj_u) else none))))) else
     (bif Nat.blt pc 124 then (bif Nat.blt pc 118 then (bif Nat.blt pc 117 then (bif Nat.beq pc 114 then some (.goto 4, 3, 118, 0, 0, mj_u) else none) else
        (bif Nat.beq pc 117 then some (.iconst (-1), 1, 0, 0, 0, .int (-1)) else none)) else
       (bif Nat.blt pc 120 then (bif Nat.beq pc 118 then some (.istore 9, 2, 9, 0, 0, mj_u) else none) else
        (bif Nat.blt pc 122 then (bif Nat.beq pc 120 then some (.iload 6, 2, 6, 0, 0, mj_u) else none) else
         (bif Nat.beq pc 122 then some (.iload 7, 2, 7, 0, 0, mj_u) else none)))) else
      (bif Nat.blt pc 128 then (bif Nat.blt pc 127 then (bif Nat.beq pc 124 then some (.if_icmp .eq 10, 3, 134, 0, 0, mj_u) else none) else
        (bif Nat.beq pc 127 then some (.iload_n 2, 1, 2, 0, 0, mj_u) else none)) else
       (bif Nat.blt pc 131 then (bif Nat.beq pc 128 then some (.invokestatic 64, 3, 64, 0, 530, mj_u) else none) else
        (bif Nat.blt pc 134 then (bif Nat.beq pc 131 then some (.goto 4, 3, 135, 0, 0, mj_u) else none) else
         (bif Nat.beq pc 134 then some (.iconst (-1), 1, 0, 0, 0, .int (-1)) else none)))))))) else
  (bif Nat.blt pc 209 then (bif Nat.blt pc 175 then (bif Nat.blt pc 154 then (bif Nat.blt pc 144 then (bif Nat.blt pc 139 then (bif Nat.blt pc 137 then (bif Nat.beq pc 135 then some (.istore 10, 2, 10, 0, 0, mj_u) else none) else
        (bif Nat.beq pc 137 then some (.iload 4, 2, 4, 0, 0, mj_u) else none)) else
       (bif Nat.blt pc 141 then (bif Nat.beq pc 139 then some (.iload 6, 2, 6, 0, 0, mj_u) else none) else
        (bif Nat.beq pc 141 then some (.if_icmp .eq 10, 3, 151, 0, 0, mj_u) else none))) else
      (bif Nat.blt pc 148 then (bif Nat.blt pc 145 then (bif Nat.beq pc 144 then some (.iload_n 1, 1, 1, 0, 0, mj_u) else none) else
        (bif Nat.beq pc 145 then some (.invokestatic 68, 3, 65, 0, 533, mj_u) else none)) else
       (bif Nat.blt pc 151 then (bif Nat.beq pc 148 then some (.goto 4, 3, 152, 0, 0, mj_u) else none) else
        (bif Nat.blt pc 152 then (bif Nat.beq pc 151 then some (.iconst (-1), 1, 0, 0, 0, .int (-1)) else none) else
         (bif Nat.beq pc 152 then some (.istore 11, 2, 11, 0, 0, mj_u) else none))))) else
     (bif Nat.blt pc 163 then (bif Nat.blt pc 158 then (bif Nat.blt pc 156 then (bif Nat.beq pc 154 then some (.iload 4, 2, 4, 0, 0, mj_u) else none) else
        (bif Nat.beq pc 156 then some (.iload 7, 2, 7, 0, 0, mj_u) else none)) else
       (bif Nat.blt pc 161 then (bif Nat.beq pc 158 then some (.if_icmp .ne 79, 3, 237, 0, 0, mj_u) else none) else
        (bif Nat.beq pc 161 then some (.iload 5, 2, 5, 0, 0, mj_u) else none))) else
      (bif Nat.blt pc 168 then (bif Nat.blt pc 165 then (bif Nat.beq pc 163 then some (.iload 6, 2, 6, 0, 0, mj_u) else none) else
        (bif Nat.beq pc 165 then some (.if_icmp .ne 72, 3, 237, 0, 0, mj_u) else none)) else
       (bif Nat.blt pc 170 then (bif Nat.beq pc 168 then some (.iload 4, 2, 4, 0, 0, mj_u) else none) else
        (bif Nat.blt pc 172 then (bif Nat.beq pc 170 then some (.iload 5, 2, 5, 0, 0, mj_u) else none) else
         (bif Nat.beq pc 172 then some (.if_icmp .eq 65, 3, 237, 0, 0, mj_u) else none)))))) else
    (bif Nat.blt pc 188 then (bif Nat.blt pc 181 then (bif Nat.blt pc 177 then (bif Nat.blt pc 176 then (bif Nat.beq pc 175 then some (.aload_n 0, 1, 0, 0, 0, mj_u) else none) else
        (bif Nat.beq pc 176 then some (.iload_n 1, 1, 1, 0, 0, mj_u) else none)) else
       (bif Nat.blt pc 178 then (bif Nat.beq pc 177 then some (.iload_n 2, 1, 2, 0, 0, mj_u) else none) else
        (bif Nat.beq pc 178 then some (.invokevirtual 71, 3, 66, 0, 536, mj_u) else none))) else
      (bif Nat.blt pc 183 then (bif Nat.blt pc 182 then (bif Nat.beq pc 181 then some (.iconst 4, 1, 0, 0, 0, .int 4) else none) else
        (bif Nat.beq pc 182 then some (.iload_n 3, 1, 3, 0, 0, mj_u) else none)) else
       (bif Nat.blt pc 184 then (bif Nat.beq pc 183 then some (.imul, 1, 0, 0, 0, mj_u) else none) else
        (bif Nat.blt pc 187 then (bif Nat.beq pc 184 then some (.if_icmp .gt 7, 3, 191, 0, 0, mj_u) else none) else
         (bif Nat.beq pc 187 then some (.iconst 1, 1, 0, 0, 0, .int 1) else none))))) else
     (bif Nat.blt pc 197 then (bif Nat.blt pc 192 then (bif Nat.blt pc 191 then (bif Nat.beq pc 188 then some (.goto 4, 3, 192, 0, 0, mj_u) else none) else
        (bif Nat.beq pc 191 then some (.iconst 0, 1, 0, 0, 0, .int 0) else none)) else
       (bif Nat.blt pc 194 then (bif Nat.beq pc 192 then some (.istore 12, 2, 12, 0, 0, mj_u) else none) else
        (bif Nat.blt pc 195 then (bif Nat.beq pc 194 then some (.aload_n 0, 1, 0, 0, 0, mj_u) else none) else
         (bif Nat.beq pc 195 then some (.iload 8, 2, 8, 0, 0, mj_u) else none)))) else
      (bif Nat.blt pc 201 then (bif Nat.blt pc 199 then (bif Nat.beq pc 197 then some (.iload 12, 2, 12, 0, 0, mj_u) else none) else
        (bif Nat.beq pc 199 then some (.iload 4, 2, 4, 0, 0, mj_u) else none)) else
       (bif Nat.blt pc 204 then (bif Nat.beq pc 201 then some (.if_icmp .ne 8, 3, 209, 0, 0, mj_u) else none) else
        (bif Nat.blt pc 206 then (bif Nat.beq pc 204 then some (.iload 11, 2, 11, 0, 0, mj_u) else none) else
         (bif Nat.beq pc 206 then some (.goto 5, 3, 211, 0, 0, mj_u) else none))))))) else
   (bif Nat.blt pc 252 then (bif Nat.blt pc 229 then (bif Nat.blt pc 217 then (bif Nat.blt pc 214 then (bif Nat.blt pc 211 then (bif Nat.beq pc 209 then some (.iload 9, 2, 9, 0, 0, mj_u) else none) else
        (bif Nat.beq pc 211 then some (.invokevirtual 74, 3, 67, 0, 540, mj_u) else none)) else
       (bif Nat.blt pc 215 then (bif Nat.beq pc 214 then some (.aload_n 0, 1, 0, 0, 0, mj_u) else none) else
        (bif Nat.beq pc 215 then some (.iload 10, 2, 10, 0, 0, mj_u) else none))) else
      (bif Nat.blt pc 221 then (bif Nat.blt pc 219 then (bif Nat.beq pc 217 then some (.iload 12, 2, 12, 0, 0, mj_u) else none) else
        (bif Nat.beq pc 219 then some (.iload 4, 2, 4, 0, 0, mj_u) else none)) else
       (bif Nat.blt pc 224 then (bif Nat.beq pc 221 then some (.if_icmp .ne 8, 3, 229, 0, 0, mj_u) else none) else
        (bif Nat.blt pc 226 then (bif Nat.beq pc 224 then some (.iload 9, 2, 9, 0, 0, mj_u) else none) else
         (bif Nat.beq pc 226 then some (.goto 5, 3, 231, 0, 0, mj_u) else none))))) else
     (bif Nat.blt pc 239 then (bif Nat.blt pc 234 then (bif Nat.blt pc 231 then (bif Nat.beq pc 229 then some (.iload 11, 2, 11, 0, 0, mj_u) else none) else
        (bif Nat.beq pc 231 then some (.invokevirtual 74, 3, 67, 0, 540, mj_u) else none)) else
       (bif Nat.blt pc 237 then (bif Nat.beq pc 234 then some (.goto 59, 3, 293, 0, 0, mj_u) else none) else
        (bif Nat.beq pc 237 then some (.iload 8, 2, 8, 0, 0, mj_u) else none))) else
      (bif Nat.blt pc 244 then (bif Nat.blt pc 242 then (bif Nat.beq pc 239 then some (.ifCond .lt 8, 3, 247, 0, 0, mj_u) else none) else
        (bif Nat.beq pc 242 then some (.iload 8, 2, 8, 0, 0, mj_u) else none)) else
       (bif Nat.blt pc 247 then (bif Nat.beq pc 244 then some (.goto 15, 3, 259, 0, 0, mj_u) else none) else
        (bif Nat.blt pc 249 then (bif Nat.beq pc 247 then some (.iload 9, 2, 9, 0, 0, mj_u) else none) else
         (bif Nat.beq pc 249 then some (.ifCond .lt 8, 3, 257, 0, 0, mj_u) else none)))))) else
    (bif Nat.blt pc 273 then (bif Nat.blt pc 261 then (bif Nat.blt pc 257 then (bif Nat.blt pc 254 then (bif Nat.beq pc 252 then some (.iload 9, 2, 9, 0, 0, mj_u) else none) else
        (bif Nat.beq pc 254 then some (.goto 5, 3, 259, 0, 0, mj_u) else none)) else
       (bif Nat.blt pc 259 then (bif Nat.beq pc 257 then some (.iload 10, 2, 10, 0, 0, mj_u) else none) else
        (bif Nat.beq pc 259 then some (.istore 12, 2, 12, 0, 0, mj_u) else none))) else
      (bif Nat.blt pc 266 then (bif Nat.blt pc 263 then (bif Nat.beq pc 261 then some (.iload 11, 2, 11, 0, 0, mj_u) else none) else
        (bif Nat.beq pc 263 then some (.ifCond .lt 8, 3, 271, 0, 0, mj_u) else none)) else
       (bif Nat.blt pc 268 then (bif Nat.beq pc 266 then some (.iload 11, 2, 11, 0, 0, mj_u) else none) else
        (bif Nat.blt pc 271 then (bif Nat.beq pc 268 then some (.goto 15, 3, 283, 0, 0, mj_u) else none) else
         (bif Nat.beq pc 271 then some (.iload 10, 2, 10, 0, 0, mj_u) else none))))) else
     (bif Nat.blt pc 285 then (bif Nat.blt pc 278 then (bif Nat.blt pc 276 then (bif Nat.beq pc 273 then some (.ifCond .lt 8, 3, 281, 0, 0, mj_u) else none) else
        (bif Nat.beq pc 276 then some (.iload 10, 2, 10, 0, 0, mj_u) else none)) else
       (bif Nat.blt pc 281 then (bif Nat.beq pc 278 then some (.goto 5, 3, 283, 0, 0, mj_u) else none) else
        (bif Nat.blt pc 283 then (bif Nat.beq pc 281 then some (.iload 9, 2, 9, 0, 0, mj_u) else none) else
         (bif Nat.beq pc 283 then some (.istore 13, 2, 13, 0, 0, mj_u) else none)))) else
      (bif Nat.blt pc 288 then (bif Nat.blt pc 286 then (bif Nat.beq pc 285 then some (.aload_n 0, 1, 0, 0, 0, mj_u) else none) else
        (bif Nat.beq pc 286 then some (.iload 12, 2, 12, 0, 0, mj_u) else none)) else
       (bif Nat.blt pc 290 then (bif Nat.beq pc 288 then some (.iload 13, 2, 13, 0, 0, mj_u) else none) else
        (bif Nat.blt pc 293 then (bif Nat.beq pc 290 then some (.invokevirtual 74, 3, 67, 0, 540, mj_u) else none) else
         (bif Nat.beq pc 293 then some (.return_, 1, 0, 0, 0, mj_u) else none))))))))
def m_Contours_drawSquare : mj_M := (63, prog_2_method_3_code, 14, (Option.none : Option Jvm.ClassFile.FieldType), 0, 3, 529, 528, 15, 51, 294, k_Contours_drawSquare)
/-- WatershedMap$Contours.sideRightOf(I)I static -/
def k_Contours_sideRightOf : Nat → Option mj_I := fun pc =>
  bif Nat.blt pc 2 then (bif Nat.blt pc 1 then (bif Nat.beq pc 0 then some (.iconst 2, 1, 0, 0, 0, .int 2) else none) else
   (bif Nat.beq pc 1 then some (.iload_n 0, 1, 0, 0, 0, mj_u) else none)) else
  (bif Nat.blt pc 3 then (bif Nat.beq pc 2 then some (.imul, 1, 0, 0, 0, mj_u) else none) else
   (bif Nat.beq pc 3 then some (.ireturn, 1, 0, 0, 0, mj_u) else none))
def m_Contours_sideRightOf : mj_M := (64, prog_2_method_4_code, 1, (Option.some Jvm.ClassFile.FieldType.int), 0, 1, 532, 531, 0, 51, 4, k_Contours_sideRightOf)
/-- WatershedMap$Contours.sideBelow(I)I static -/
def k_Contours_sideBelow : Nat → Option mj_I := fun pc =>
  bif Nat.blt pc 3 then (bif Nat.blt pc 1 then (bif Nat.beq pc 0 then some (.iconst 2, 1, 0, 0, 0, .int 2) else none) else
   (bif Nat.blt pc 2 then (bif Nat.beq pc 1 then some (.iload_n 0, 1, 0, 0, 0, mj_u) else none) else
    (bif Nat.beq pc 2 then some (.imul, 1, 0, 0, 0, mj_u) else none))) else
  (bif Nat.blt pc 4 then (bif Nat.beq pc 3 then some (.iconst 1, 1, 0, 0, 0, .int 1) else none) else
   (bif Nat.blt pc 5 then (bif Nat.beq pc 4 then some (.iadd, 1, 0, 0, 0, mj_u) else none) else
    (bif Nat.beq pc 5 then some (.ireturn, 1, 0, 0, 0, mj_u) else none)))
def m_Contours_sideBelow : mj_M := (65, prog_2_method_5_code, 1, (Option.some Jvm.ClassFile.FieldType.int), 0, 1, 535, 534, 0, 51, 6, k_Contours_sideBelow)
/-- WatershedMap$Contours.sumOfSquare(II)I -/
def k_Contours_sumOfSquare : Nat → Option mj_I := fun pc =>
  bif Nat.blt pc 22 then (bif Nat.blt pc 13 then (bif Nat.blt pc 7 then (bif Nat.blt pc 1 then (bif Nat.beq pc 0 then some (.aload_n 0, 1, 0, 0, 0, mj_u) else none) else
     (bif Nat.blt pc 4 then (bif Nat.beq pc 1 then some (.getfield 22, 3, 0, 0, 225, .null) else none) else
      (bif Nat.beq pc 4 then some (.getfield 61, 3, 4, 0, 89, .null) else none))) else
    (bif Nat.blt pc 9 then (bif Nat.blt pc 8 then (bif Nat.beq pc 7 then some (.iload_n 1, 1, 1, 0, 0, mj_u) else none) else
      (bif Nat.beq pc 8 then some (.iaload, 1, 0, 0, 0, mj_u) else none)) else
     (bif Nat.blt pc 10 then (bif Nat.beq pc 9 then some (.aload_n 0, 1, 0, 0, 0, mj_u) else none) else
      (bif Nat.beq pc 10 then some (.getfield 22, 3, 0, 0, 225, .null) else none)))) else
   (bif Nat.blt pc 18 then (bif Nat.blt pc 16 then (bif Nat.beq pc 13 then some (.getfield 61, 3, 4, 0, 89, .null) else none) else
     (bif Nat.blt pc 17 then (bif Nat.beq pc 16 then some (.iload_n 1, 1, 1, 0, 0, mj_u) else none) else
      (bif Nat.beq pc 17 then some (.iconst 1, 1, 0, 0, 0, .int 1) else none))) else
    (bif Nat.blt pc 20 then (bif Nat.blt pc 19 then (bif Nat.beq pc 18 then some (.iadd, 1, 0, 0, 0, mj_u) else none) else
      (bif Nat.beq pc 19 then some (.iaload, 1, 0, 0, 0, mj_u) else none)) else
     (bif Nat.blt pc 21 then (bif Nat.beq pc 20 then some (.iadd, 1, 0, 0, 0, mj_u) else none) else
      (bif Nat.beq pc 21 then some (.aload_n 0, 1, 0, 0, 0, mj_u) else none))))) else
  (bif Nat.blt pc 35 then (bif Nat.blt pc 29 then (bif Nat.blt pc 25 then (bif Nat.beq pc 22 then some (.getfield 22, 3, 0, 0, 225, .null) else none) else
     (bif Nat.blt pc 28 then (bif Nat.beq pc 25 then some (.getfield 61, 3, 4, 0, 89, .null) else none) else
      (bif Nat.beq pc 28 then some (.iload_n 2, 1, 2, 0, 0, mj_u) else none))) else
    (bif Nat.blt pc 31 then (bif Nat.blt pc 30 then (bif Nat.beq pc 29 then some (.iaload, 1, 0, 0, 0, mj_u) else none) else
      (bif Nat.beq pc 30 then some (.iadd, 1, 0, 0, 0, mj_u) else none)) else
     (bif Nat.blt pc 32 then (bif Nat.beq pc 31 then some (.aload_n 0, 1, 0, 0, 0, mj_u) else none) else
      (bif Nat.beq pc 32 then some (.getfield 22, 3, 0, 0, 225, .null) else none)))) else
   (bif Nat.blt pc 40 then (bif Nat.blt pc 38 then (bif Nat.beq pc 35 then some (.getfield 61, 3, 4, 0, 89, .null) else none) else
     (bif Nat.blt pc 39 then (bif Nat.beq pc 38 then some (.iload_n 2, 1, 2, 0, 0, mj_u) else none) else
      (bif Nat.beq pc 39 then some (.iconst 1, 1, 0, 0, 0, .int 1) else none))) else
    (bif Nat.blt pc 42 then (bif Nat.blt pc 41 then (bif Nat.beq pc 40 then some (.iadd, 1, 0, 0, 0, mj_u) else none) else
      (bif Nat.beq pc 41 then some (.iaload, 1, 0, 0, 0, mj_u) else none)) else
     (bif Nat.blt pc 43 then (bif Nat.beq pc 42 then some (.iadd, 1, 0, 0, 0, mj_u) else none) else
      (bif Nat.beq pc 43 then some (.ireturn, 1, 0, 0, 0, mj_u) else none)))))
def m_Contours_sumOfSquare : mj_M := (66, prog_2_method_6_code, 3, (Option.some Jvm.ClassFile.FieldType.int), 0, 2, 539, 538, 16, 51, 44, k_Contours_sumOfSquare)
/-- WatershedMap$Contours.addPiece(II)V -/
def k_Contours_addPiece : Nat → Option mj_I := fun pc =>
  bif Nat.blt pc 24 then (bif Nat.blt pc 13 then (bif Nat.blt pc 5 then (bif Nat.blt pc 1 then (bif Nat.beq pc 0 then some (.iload_n 1, 1, 1, 0, 0, mj_u) else none) else
     (bif Nat.blt pc 4 then (bif Nat.beq pc 1 then some (.ifCond .lt 44, 3, 45, 0, 0, mj_u) else none) else
      (bif Nat.beq pc 4 then some (.iload_n 2, 1, 2, 0, 0, mj_u) else none))) else
    (bif Nat.blt pc 9 then (bif Nat.blt pc 8 then (bif Nat.beq pc 5 then some (.ifCond .lt 40, 3, 45, 0, 0, mj_u) else none) else
      (bif Nat.beq pc 8 then some (.aload_n 0, 1, 0, 0, 0, mj_u) else none)) else
     (bif Nat.blt pc 12 then (bif Nat.beq pc 9 then some (.getfield 35, 3, 0, 3, 228, .int 0) else none) else
      (bif Nat.beq pc 12 then some (.istore_n 3, 1, 3, 0, 0, mj_u) else none)))) else
   (bif Nat.blt pc 18 then (bif Nat.blt pc 14 then (bif Nat.beq pc 13 then some (.aload_n 0, 1, 0, 0, 0, mj_u) else none) else
     (bif Nat.blt pc 15 then (bif Nat.beq pc 14 then some (.dup, 1, 0, 0, 0, mj_u) else none) else
      (bif Nat.beq pc 15 then some (.getfield 35, 3, 0, 3, 228, .int 0) else none))) else
    (bif Nat.blt pc 20 then (bif Nat.blt pc 19 then (bif Nat.beq pc 18 then some (.iconst 1, 1, 0, 0, 0, .int 1) else none) else
      (bif Nat.beq pc 19 then some (.iadd, 1, 0, 0, 0, mj_u) else none)) else
     (bif Nat.blt pc 23 then (bif Nat.beq pc 20 then some (.putfield 35, 3, 0, 3, 228, .int 0) else none) else
      (bif Nat.beq pc 23 then some (.aload_n 0, 1, 0, 0, 0, mj_u) else none))))) else
  (bif Nat.blt pc 35 then (bif Nat.blt pc 29 then (bif Nat.blt pc 25 then (bif Nat.beq pc 24 then some (.dup, 1, 0, 0, 0, mj_u) else none) else
     (bif Nat.blt pc 28 then (bif Nat.beq pc 25 then some (.getfield 39, 3, 0, 4, 229, .int 0) else none) else
      (bif Nat.beq pc 28 then some (.iconst 1, 1, 0, 0, 0, .int 1) else none))) else
    (bif Nat.blt pc 33 then (bif Nat.blt pc 30 then (bif Nat.beq pc 29 then some (.iadd, 1, 0, 0, 0, mj_u) else none) else
      (bif Nat.beq pc 30 then some (.putfield 39, 3, 0, 4, 229, .int 0) else none)) else
     (bif Nat.blt pc 34 then (bif Nat.beq pc 33 then some (.aload_n 0, 1, 0, 0, 0, mj_u) else none) else
      (bif Nat.beq pc 34 then some (.iload_n 1, 1, 1, 0, 0, mj_u) else none)))) else
   (bif Nat.blt pc 40 then (bif Nat.blt pc 36 then (bif Nat.beq pc 35 then some (.iload_n 3, 1, 3, 0, 0, mj_u) else none) else
     (bif Nat.blt pc 39 then (bif Nat.beq pc 36 then some (.invokevirtual 78, 3, 68, 0, 544, mj_u) else none) else
      (bif Nat.beq pc 39 then some (.aload_n 0, 1, 0, 0, 0, mj_u) else none))) else
    (bif Nat.blt pc 42 then (bif Nat.blt pc 41 then (bif Nat.beq pc 40 then some (.iload_n 2, 1, 2, 0, 0, mj_u) else none) else
      (bif Nat.beq pc 41 then some (.iload_n 3, 1, 3, 0, 0, mj_u) else none)) else
     (bif Nat.blt pc 45 then (bif Nat.beq pc 42 then some (.invokevirtual 78, 3, 68, 0, 544, mj_u) else none) else
      (bif Nat.beq pc 45 then some (.return_, 1, 0, 0, 0, mj_u) else none)))))
def m_Contours_addPiece : mj_M := (67, prog_2_method_7_code, 4, (Option.none : Option Jvm.ClassFile.FieldType), 0, 2, 543, 542, 17, 51, 46, k_Contours_addPiece)
/-- WatershedMap$Contours.tie(II)V -/
def k_Contours_tie : Nat → Option mj_I := fun pc =>
  bif Nat.blt pc 24 then (bif Nat.blt pc 12 then (bif Nat.blt pc 6 then (bif Nat.blt pc 4 then (bif Nat.blt pc 1 then (bif Nat.beq pc 0 then some (.aload_n 0, 1, 0, 0, 0, mj_u) else none) else
      (bif Nat.beq pc 1 then some (.getfield 9, 3, 0, 1, 226, .null) else none)) else
     (bif Nat.blt pc 5 then (bif Nat.beq pc 4 then some (.iload_n 1, 1, 1, 0, 0, mj_u) else none) else
      (bif Nat.beq pc 5 then some (.iaload, 1, 0, 0, 0, mj_u) else none))) else
    (bif Nat.blt pc 8 then (bif Nat.blt pc 7 then (bif Nat.beq pc 6 then some (.istore_n 3, 1, 3, 0, 0, mj_u) else none) else
      (bif Nat.beq pc 7 then some (.aload_n 0, 1, 0, 0, 0, mj_u) else none)) else
     (bif Nat.blt pc 11 then (bif Nat.beq pc 8 then some (.getfield 9, 3, 0, 1, 226, .null) else none) else
      (bif Nat.beq pc 11 then some (.iload_n 1, 1, 1, 0, 0, mj_u) else none)))) else
   (bif Nat.blt pc 18 then (bif Nat.blt pc 14 then (bif Nat.blt pc 13 then (bif Nat.beq pc 12 then some (.iload_n 2, 1, 2, 0, 0, mj_u) else none) else
      (bif Nat.beq pc 13 then some (.iastore, 1, 0, 0, 0, mj_u) else none)) else
     (bif Nat.blt pc 15 then (bif Nat.beq pc 14 then some (.iload_n 3, 1, 3, 0, 0, mj_u) else none) else
      (bif Nat.beq pc 15 then some (.ifCond .lt 38, 3, 53, 0, 0, mj_u) else none))) else
    (bif Nat.blt pc 22 then (bif Nat.blt pc 19 then (bif Nat.beq pc 18 then some (.aload_n 0, 1, 0, 0, 0, mj_u) else none) else
      (bif Nat.beq pc 19 then some (.getfield 18, 3, 0, 2, 227, .null) else none)) else
     (bif Nat.blt pc 23 then (bif Nat.beq pc 22 then some (.iload_n 3, 1, 3, 0, 0, mj_u) else none) else
      (bif Nat.beq pc 23 then some (.iload_n 2, 1, 2, 0, 0, mj_u) else none))))) else
  (bif Nat.blt pc 40 then (bif Nat.blt pc 32 then (bif Nat.blt pc 30 then (bif Nat.blt pc 27 then (bif Nat.beq pc 24 then some (.invokevirtual 81, 3, 31, 0, 548, mj_u) else none) else
      (bif Nat.beq pc 27 then some (.ifCond .eq 16, 3, 43, 0, 0, mj_u) else none)) else
     (bif Nat.blt pc 31 then (bif Nat.beq pc 30 then some (.aload_n 0, 1, 0, 0, 0, mj_u) else none) else
      (bif Nat.beq pc 31 then some (.dup, 1, 0, 0, 0, mj_u) else none))) else
    (bif Nat.blt pc 36 then (bif Nat.blt pc 35 then (bif Nat.beq pc 32 then some (.getfield 39, 3, 0, 4, 229, .int 0) else none) else
      (bif Nat.beq pc 35 then some (.iconst 1, 1, 0, 0, 0, .int 1) else none)) else
     (bif Nat.blt pc 37 then (bif Nat.beq pc 36 then some (.isub, 1, 0, 0, 0, mj_u) else none) else
      (bif Nat.beq pc 37 then some (.putfield 39, 3, 0, 4, 229, .int 0) else none)))) else
   (bif Nat.blt pc 48 then (bif Nat.blt pc 44 then (bif Nat.blt pc 43 then (bif Nat.beq pc 40 then some (.goto 13, 3, 53, 0, 0, mj_u) else none) else
      (bif Nat.beq pc 43 then some (.aload_n 0, 1, 0, 0, 0, mj_u) else none)) else
     (bif Nat.blt pc 45 then (bif Nat.beq pc 44 then some (.dup, 1, 0, 0, 0, mj_u) else none) else
      (bif Nat.beq pc 45 then some (.getfield 42, 3, 0, 5, 230, .int 0) else none))) else
    (bif Nat.blt pc 50 then (bif Nat.blt pc 49 then (bif Nat.beq pc 48 then some (.iconst 1, 1, 0, 0, 0, .int 1) else none) else
      (bif Nat.beq pc 49 then some (.iadd, 1, 0, 0, 0, mj_u) else none)) else
     (bif Nat.blt pc 53 then (bif Nat.beq pc 50 then some (.putfield 42, 3, 0, 5, 230, .int 0) else none) else
      (bif Nat.beq pc 53 then some (.return_, 1, 0, 0, 0, mj_u) else none)))))
def m_Contours_tie : mj_M := (68, prog_2_method_8_code, 4, (Option.none : Option Jvm.ClassFile.FieldType), 0, 2, 547, 546, 18, 51, 54, k_Contours_tie)
/-- WatershedMap$Contours.told(I)I -/
def k_Contours_told : Nat → Option mj_I := fun pc =>
  bif Nat.blt pc 13 then (bif Nat.blt pc 5 then (bif Nat.blt pc 1 then (bif Nat.beq pc 0 then some (.iload_n 1, 1, 1, 0, 0, mj_u) else none) else
    (bif Nat.blt pc 4 then (bif Nat.beq pc 1 then some (.ifCond .ne 10, 3, 11, 0, 0, mj_u) else none) else
     (bif Nat.beq pc 4 then some (.aload_n 0, 1, 0, 0, 0, mj_u) else none))) else
   (bif Nat.blt pc 11 then (bif Nat.blt pc 8 then (bif Nat.beq pc 5 then some (.getfield 35, 3, 0, 3, 228, .int 0) else none) else
     (bif Nat.beq pc 8 then some (.goto 19, 3, 27, 0, 0, mj_u) else none)) else
    (bif Nat.blt pc 12 then (bif Nat.beq pc 11 then some (.iload_n 1, 1, 1, 0, 0, mj_u) else none) else
     (bif Nat.beq pc 12 then some (.iconst 1, 1, 0, 0, 0, .int 1) else none)))) else
  (bif Nat.blt pc 20 then (bif Nat.blt pc 16 then (bif Nat.beq pc 13 then some (.if_icmp .ne 10, 3, 23, 0, 0, mj_u) else none) else
    (bif Nat.blt pc 17 then (bif Nat.beq pc 16 then some (.aload_n 0, 1, 0, 0, 0, mj_u) else none) else
     (bif Nat.beq pc 17 then some (.getfield 39, 3, 0, 4, 229, .int 0) else none))) else
   (bif Nat.blt pc 24 then (bif Nat.blt pc 23 then (bif Nat.beq pc 20 then some (.goto 7, 3, 27, 0, 0, mj_u) else none) else
     (bif Nat.beq pc 23 then some (.aload_n 0, 1, 0, 0, 0, mj_u) else none)) else
    (bif Nat.blt pc 27 then (bif Nat.beq pc 24 then some (.getfield 42, 3, 0, 5, 230, .int 0) else none) else
     (bif Nat.beq pc 27 then some (.ireturn, 1, 0, 0, 0, mj_u) else none))))
def m_Contours_told : mj_M := (69, prog_2_method_9_code, 2, (Option.some Jvm.ClassFile.FieldType.int), 0, 1, 552, 550, 551, 51, 28, k_Contours_told)
/-- WatershedMap.digestOfFields(J)J -/
def k_W_digestOfFields : Nat → Option mj_I := fun pc =>
  bif Nat.blt pc 45 then (bif Nat.blt pc 23 then (bif Nat.blt pc 8 then (bif Nat.blt pc 3 then (bif Nat.blt pc 1 then (bif Nat.beq pc 0 then some (.lload_n 1, 1, 1, 0, 0, mj_u) else none) else
      (bif Nat.blt pc 2 then (bif Nat.beq pc 1 then some (.lstore_n 3, 1, 3, 0, 0, mj_u) else none) else
       (bif Nat.beq pc 2 then some (.iconst 0, 1, 0, 0, 0, .int 0) else none))) else
     (bif Nat.blt pc 5 then (bif Nat.beq pc 3 then some (.istore 5, 2, 5, 0, 0, mj_u) else none) else
      (bif Nat.blt pc 7 then (bif Nat.beq pc 5 then some (.iload 5, 2, 5, 0, 0, mj_u) else none) else
       (bif Nat.beq pc 7 then some (.aload_n 0, 1, 0, 0, 0, mj_u) else none)))) else
    (bif Nat.blt pc 17 then (bif Nat.blt pc 11 then (bif Nat.beq pc 8 then some (.getfield 10, 3, 8, 0, 296, .null) else none) else
      (bif Nat.blt pc 14 then (bif Nat.beq pc 11 then some (.getfield 69, 3, 4, 5, 105, .int 0) else none) else
       (bif Nat.beq pc 14 then some (.if_icmp .ge 79, 3, 93, 0, 0, mj_u) else none))) else
     (bif Nat.blt pc 21 then (bif Nat.blt pc 18 then (bif Nat.beq pc 17 then some (.lload_n 3, 1, 3, 0, 0, mj_u) else none) else
       (bif Nat.beq pc 18 then some (.ldc2_w 204, 3, 0, 0, 497, .long 31) else none)) else
      (bif Nat.blt pc 22 then (bif Nat.beq pc 21 then some (.lmul, 1, 0, 0, 0, mj_u) else none) else
       (bif Nat.beq pc 22 then some (.aload_n 0, 1, 0, 0, 0, mj_u) else none))))) else
   (bif Nat.blt pc 34 then (bif Nat.blt pc 31 then (bif Nat.blt pc 26 then (bif Nat.beq pc 23 then some (.getfield 10, 3, 8, 0, 296, .null) else none) else
      (bif Nat.blt pc 29 then (bif Nat.beq pc 26 then some (.getfield 122, 3, 4, 0, 92, .null) else none) else
       (bif Nat.beq pc 29 then some (.iload 5, 2, 5, 0, 0, mj_u) else none))) else
     (bif Nat.blt pc 32 then (bif Nat.beq pc 31 then some (.iaload, 1, 0, 0, 0, mj_u) else none) else
      (bif Nat.blt pc 33 then (bif Nat.beq pc 32 then some (.i2l, 1, 0, 0, 0, mj_u) else none) else
       (bif Nat.beq pc 33 then some (.ladd, 1, 0, 0, 0, mj_u) else none)))) else
    (bif Nat.blt pc 38 then (bif Nat.blt pc 35 then (bif Nat.beq pc 34 then some (.lstore_n 3, 1, 3, 0, 0, mj_u) else none) else
      (bif Nat.blt pc 36 then (bif Nat.beq pc 35 then some (.iconst 0, 1, 0, 0, 0, .int 0) else none) else
       (bif Nat.beq pc 36 then some (.istore 6, 2, 6, 0, 0, mj_u) else none))) else
     (bif Nat.blt pc 41 then (bif Nat.blt pc 40 then (bif Nat.beq pc 38 then some (.iload 6, 2, 6, 0, 0, mj_u) else none) else
       (bif Nat.beq pc 40 then some (.iconst 4, 1, 0, 0, 0, .int 4) else none)) else
      (bif Nat.blt pc 44 then (bif Nat.beq pc 41 then some (.if_icmp .gt 28, 3, 69, 0, 0, mj_u) else none) else
       (bif Nat.beq pc 44 then some (.lload_n 3, 1, 3, 0, 0, mj_u) else none)))))) else
  (bif Nat.blt pc 70 then (bif Nat.blt pc 57 then (bif Nat.blt pc 50 then (bif Nat.blt pc 48 then (bif Nat.beq pc 45 then some (.ldc2_w 204, 3, 0, 0, 497, .long 31) else none) else
      (bif Nat.blt pc 49 then (bif Nat.beq pc 48 then some (.lmul, 1, 0, 0, 0, mj_u) else none) else
       (bif Nat.beq pc 49 then some (.aload_n 0, 1, 0, 0, 0, mj_u) else none))) else
     (bif Nat.blt pc 53 then (bif Nat.beq pc 50 then some (.getfield 21, 3, 8, 1, 297, .null) else none) else
      (bif Nat.blt pc 55 then (bif Nat.beq pc 53 then some (.iload 5, 2, 5, 0, 0, mj_u) else none) else
       (bif Nat.beq pc 55 then some (.iload 6, 2, 6, 0, 0, mj_u) else none)))) else
    (bif Nat.blt pc 62 then (bif Nat.blt pc 60 then (bif Nat.beq pc 57 then some (.invokevirtual 125, 3, 71, 0, 557, mj_u) else none) else
      (bif Nat.blt pc 61 then (bif Nat.beq pc 60 then some (.i2l, 1, 0, 0, 0, mj_u) else none) else
       (bif Nat.beq pc 61 then some (.ladd, 1, 0, 0, 0, mj_u) else none))) else
     (bif Nat.blt pc 66 then (bif Nat.blt pc 63 then (bif Nat.beq pc 62 then some (.lstore_n 3, 1, 3, 0, 0, mj_u) else none) else
       (bif Nat.beq pc 63 then some (.iinc 6 1, 3, 6, 0, 0, .int 1) else none)) else
      (bif Nat.blt pc 69 then (bif Nat.beq pc 66 then some (.goto (-28), 3, 38, 0, 0, mj_u) else none) else
       (bif Nat.beq pc 69 then some (.lload_n 3, 1, 3, 0, 0, mj_u) else none))))) else
   (bif Nat.blt pc 84 then (bif Nat.blt pc 75 then (bif Nat.blt pc 73 then (bif Nat.beq pc 70 then some (.ldc2_w 204, 3, 0, 0, 497, .long 31) else none) else
      (bif Nat.blt pc 74 then (bif Nat.beq pc 73 then some (.lmul, 1, 0, 0, 0, mj_u) else none) else
       (bif Nat.beq pc 74 then some (.aload_n 0, 1, 0, 0, 0, mj_u) else none))) else
     (bif Nat.blt pc 81 then (bif Nat.blt pc 78 then (bif Nat.beq pc 75 then some (.getfield 28, 3, 8, 2, 298, .null) else none) else
       (bif Nat.beq pc 78 then some (.getfield 111, 3, 3, 1, 201, .null) else none)) else
      (bif Nat.blt pc 83 then (bif Nat.beq pc 81 then some (.iload 5, 2, 5, 0, 0, mj_u) else none) else
       (bif Nat.beq pc 83 then some (.iaload, 1, 0, 0, 0, mj_u) else none)))) else
    (bif Nat.blt pc 87 then (bif Nat.blt pc 85 then (bif Nat.beq pc 84 then some (.i2l, 1, 0, 0, 0, mj_u) else none) else
      (bif Nat.blt pc 86 then (bif Nat.beq pc 85 then some (.ladd, 1, 0, 0, 0, mj_u) else none) else
       (bif Nat.beq pc 86 then some (.lstore_n 3, 1, 3, 0, 0, mj_u) else none))) else
     (bif Nat.blt pc 93 then (bif Nat.blt pc 90 then (bif Nat.beq pc 87 then some (.iinc 5 1, 3, 5, 0, 0, .int 1) else none) else
       (bif Nat.beq pc 90 then some (.goto (-85), 3, 5, 0, 0, mj_u) else none)) else
      (bif Nat.blt pc 94 then (bif Nat.beq pc 93 then some (.lload_n 3, 1, 3, 0, 0, mj_u) else none) else
       (bif Nat.beq pc 94 then some (.lreturn, 1, 0, 0, 0, mj_u) else none))))))
def m_W_digestOfFields : mj_M := (70, prog_1_method_33_code, 7, (Option.some Jvm.ClassFile.FieldType.long), 8, 1, 556, 555, 19, 45, 95, k_W_digestOfFields)
/-- WatershedMap$Streams.told(II)I -/
def k_Streams_told : Nat → Option mj_I := fun pc =>
  bif Nat.blt pc 47 then (bif Nat.blt pc 38 then (bif Nat.blt pc 33 then (bif Nat.blt pc 1 then (bif Nat.beq pc 0 then some (.iload_n 2, 1, 2, 0, 0, mj_u) else none) else
     (bif Nat.blt pc 32 then (bif Nat.beq pc 1 then some (.tableswitch 59 0 3 #[31, 38, 45, 52], 31, 60, 0, 0, mj_u) else none) else
      (bif Nat.beq pc 32 then some (.aload_n 0, 1, 0, 0, 0, mj_u) else none))) else
    (bif Nat.blt pc 36 then (bif Nat.beq pc 33 then some (.getfield 9, 3, 6, 1, 128, .null) else none) else
     (bif Nat.blt pc 37 then (bif Nat.beq pc 36 then some (.iload_n 1, 1, 1, 0, 0, mj_u) else none) else
      (bif Nat.beq pc 37 then some (.iaload, 1, 0, 0, 0, mj_u) else none)))) else
   (bif Nat.blt pc 43 then (bif Nat.blt pc 39 then (bif Nat.beq pc 38 then some (.ireturn, 1, 0, 0, 0, mj_u) else none) else
     (bif Nat.blt pc 40 then (bif Nat.beq pc 39 then some (.aload_n 0, 1, 0, 0, 0, mj_u) else none) else
      (bif Nat.beq pc 40 then some (.getfield 18, 3, 6, 3, 131, .null) else none))) else
    (bif Nat.blt pc 45 then (bif Nat.blt pc 44 then (bif Nat.beq pc 43 then some (.iload_n 1, 1, 1, 0, 0, mj_u) else none) else
      (bif Nat.beq pc 44 then some (.iaload, 1, 0, 0, 0, mj_u) else none)) else
     (bif Nat.blt pc 46 then (bif Nat.beq pc 45 then some (.ireturn, 1, 0, 0, 0, mj_u) else none) else
      (bif Nat.beq pc 46 then some (.aload_n 0, 1, 0, 0, 0, mj_u) else none))))) else
  (bif Nat.blt pc 58 then (bif Nat.blt pc 52 then (bif Nat.blt pc 50 then (bif Nat.beq pc 47 then some (.getfield 21, 3, 6, 4, 133, .null) else none) else
     (bif Nat.blt pc 51 then (bif Nat.beq pc 50 then some (.iload_n 1, 1, 1, 0, 0, mj_u) else none) else
      (bif Nat.beq pc 51 then some (.iaload, 1, 0, 0, 0, mj_u) else none))) else
    (bif Nat.blt pc 54 then (bif Nat.blt pc 53 then (bif Nat.beq pc 52 then some (.ireturn, 1, 0, 0, 0, mj_u) else none) else
      (bif Nat.beq pc 53 then some (.aload_n 0, 1, 0, 0, 0, mj_u) else none)) else
     (bif Nat.blt pc 57 then (bif Nat.beq pc 54 then some (.getfield 27, 3, 6, 6, 136, .null) else none) else
      (bif Nat.beq pc 57 then some (.iload_n 1, 1, 1, 0, 0, mj_u) else none)))) else
   (bif Nat.blt pc 61 then (bif Nat.blt pc 59 then (bif Nat.beq pc 58 then some (.iaload, 1, 0, 0, 0, mj_u) else none) else
     (bif Nat.blt pc 60 then (bif Nat.beq pc 59 then some (.ireturn, 1, 0, 0, 0, mj_u) else none) else
      (bif Nat.beq pc 60 then some (.aload_n 0, 1, 0, 0, 0, mj_u) else none))) else
    (bif Nat.blt pc 65 then (bif Nat.blt pc 64 then (bif Nat.beq pc 61 then some (.getfield 24, 3, 6, 5, 135, .null) else none) else
      (bif Nat.beq pc 64 then some (.iload_n 1, 1, 1, 0, 0, mj_u) else none)) else
     (bif Nat.blt pc 66 then (bif Nat.beq pc 65 then some (.iaload, 1, 0, 0, 0, mj_u) else none) else
      (bif Nat.beq pc 66 then some (.ireturn, 1, 0, 0, 0, mj_u) else none)))))
def m_Streams_told : mj_M := (71, prog_8_method_8_code, 3, (Option.some Jvm.ClassFile.FieldType.int), 6, 2, 560, 558, 559, 47, 67, k_Streams_told)
/-- WatershedMap.reset(II)I -/
def k_W_reset : Nat → Option mj_I := fun pc =>
  bif Nat.blt pc 14 then (bif Nat.blt pc 7 then (bif Nat.blt pc 2 then (bif Nat.blt pc 1 then (bif Nat.beq pc 0 then some (.iload_n 1, 1, 1, 0, 0, mj_u) else none) else
     (bif Nat.beq pc 1 then some (.iconst 2, 1, 0, 0, 0, .int 2) else none)) else
    (bif Nat.blt pc 4 then (bif Nat.beq pc 2 then some (.bipush 16, 2, 0, 0, 0, .int 16) else none) else
     (bif Nat.beq pc 4 then some (.invokestatic 65, 3, 73, 0, 569, mj_u) else none))) else
   (bif Nat.blt pc 9 then (bif Nat.blt pc 8 then (bif Nat.beq pc 7 then some (.iload_n 2, 1, 2, 0, 0, mj_u) else none) else
     (bif Nat.beq pc 8 then some (.iconst 2, 1, 0, 0, 0, .int 2) else none)) else
    (bif Nat.blt pc 11 then (bif Nat.beq pc 9 then some (.bipush 16, 2, 0, 0, 0, .int 16) else none) else
     (bif Nat.beq pc 11 then some (.invokestatic 65, 3, 73, 0, 569, mj_u) else none)))) else
  (bif Nat.blt pc 20 then (bif Nat.blt pc 18 then (bif Nat.blt pc 15 then (bif Nat.beq pc 14 then some (.aload_n 0, 1, 0, 0, 0, mj_u) else none) else
     (bif Nat.beq pc 15 then some (.getfield 10, 3, 8, 0, 296, .null) else none)) else
    (bif Nat.blt pc 19 then (bif Nat.beq pc 18 then some (.iload_n 1, 1, 1, 0, 0, mj_u) else none) else
     (bif Nat.beq pc 19 then some (.iload_n 2, 1, 2, 0, 0, mj_u) else none))) else
   (bif Nat.blt pc 24 then (bif Nat.blt pc 23 then (bif Nat.beq pc 20 then some (.invokevirtual 61, 3, 9, 0, 273, mj_u) else none) else
     (bif Nat.beq pc 23 then some (.aload_n 0, 1, 0, 0, 0, mj_u) else none)) else
    (bif Nat.blt pc 27 then (bif Nat.beq pc 24 then some (.getfield 10, 3, 8, 0, 296, .null) else none) else
     (bif Nat.blt pc 30 then (bif Nat.beq pc 27 then some (.getfield 69, 3, 4, 5, 105, .int 0) else none) else
      (bif Nat.beq pc 30 then some (.ireturn, 1, 0, 0, 0, mj_u) else none)))))
def m_W_reset : mj_M := (72, prog_1_method_2_code, 3, (Option.some Jvm.ClassFile.FieldType.int), 8, 2, 568, 566, 567, 45, 31, k_W_reset)
/-- WatershedMap.checkRange(III)V static -/
def k_W_checkRange : Nat → Option mj_I := fun pc =>
  bif Nat.blt pc 10 then (bif Nat.blt pc 5 then (bif Nat.blt pc 1 then (bif Nat.beq pc 0 then some (.iload_n 0, 1, 0, 0, 0, mj_u) else none) else
    (bif Nat.blt pc 2 then (bif Nat.beq pc 1 then some (.iload_n 1, 1, 1, 0, 0, mj_u) else none) else
     (bif Nat.beq pc 2 then some (.if_icmp .lt 8, 3, 10, 0, 0, mj_u) else none))) else
   (bif Nat.blt pc 6 then (bif Nat.beq pc 5 then some (.iload_n 0, 1, 0, 0, 0, mj_u) else none) else
    (bif Nat.blt pc 7 then (bif Nat.beq pc 6 then some (.iload_n 2, 1, 2, 0, 0, mj_u) else none) else
     (bif Nat.beq pc 7 then some (.if_icmp .le 13, 3, 20, 0, 0, mj_u) else none)))) else
  (bif Nat.blt pc 16 then (bif Nat.blt pc 13 then (bif Nat.beq pc 10 then some (.new 169, 3, 1000, 0, 0, mj_u) else none) else
    (bif Nat.blt pc 14 then (bif Nat.beq pc 13 then some (.dup, 1, 0, 0, 0, mj_u) else none) else
     (bif Nat.beq pc 14 then some (.ldc 218, 2, 0, 0, 0, mj_u) else none))) else
   (bif Nat.blt pc 19 then (bif Nat.beq pc 16 then some (.invokespecial 173, 3, 1002, 0, 613, mj_u) else none) else
    (bif Nat.blt pc 20 then (bif Nat.beq pc 19 then some (.athrow, 1, 0, 0, 0, mj_u) else none) else
     (bif Nat.beq pc 20 then some (.return_, 1, 0, 0, 0, mj_u) else none))))
def m_W_checkRange : mj_M := (73, prog_1_method_35_code, 3, (Option.none : Option Jvm.ClassFile.FieldType), 8, 3, 571, 570, 0, 45, 21, k_W_checkRange)
/-- WatershedMap.set(III)I -/
def k_W_set : Nat → Option mj_I := fun pc =>
  bif Nat.blt pc 15 then (bif Nat.blt pc 6 then (bif Nat.blt pc 2 then (bif Nat.blt pc 1 then (bif Nat.beq pc 0 then some (.aload_n 0, 1, 0, 0, 0, mj_u) else none) else
     (bif Nat.beq pc 1 then some (.iload_n 1, 1, 1, 0, 0, mj_u) else none)) else
    (bif Nat.blt pc 3 then (bif Nat.beq pc 2 then some (.iload_n 2, 1, 2, 0, 0, mj_u) else none) else
     (bif Nat.beq pc 3 then some (.invokevirtual 72, 3, 75, 0, 647, mj_u) else none))) else
   (bif Nat.blt pc 8 then (bif Nat.blt pc 7 then (bif Nat.beq pc 6 then some (.iload_n 3, 1, 3, 0, 0, mj_u) else none) else
     (bif Nat.beq pc 7 then some (.iconst 0, 1, 0, 0, 0, .int 0) else none)) else
    (bif Nat.blt pc 11 then (bif Nat.beq pc 8 then some (.sipush 999, 3, 0, 0, 0, .int 999) else none) else
     (bif Nat.blt pc 14 then (bif Nat.beq pc 11 then some (.invokestatic 65, 3, 73, 0, 569, mj_u) else none) else
      (bif Nat.beq pc 14 then some (.aload_n 0, 1, 0, 0, 0, mj_u) else none))))) else
  (bif Nat.blt pc 23 then (bif Nat.blt pc 19 then (bif Nat.blt pc 18 then (bif Nat.beq pc 15 then some (.getfield 10, 3, 8, 0, 296, .null) else none) else
     (bif Nat.beq pc 18 then some (.aload_n 0, 1, 0, 0, 0, mj_u) else none)) else
    (bif Nat.blt pc 22 then (bif Nat.beq pc 19 then some (.getfield 10, 3, 8, 0, 296, .null) else none) else
     (bif Nat.beq pc 22 then some (.iload_n 1, 1, 1, 0, 0, mj_u) else none))) else
   (bif Nat.blt pc 27 then (bif Nat.blt pc 24 then (bif Nat.beq pc 23 then some (.iload_n 2, 1, 2, 0, 0, mj_u) else none) else
     (bif Nat.beq pc 24 then some (.invokevirtual 75, 3, 12, 0, 668, mj_u) else none)) else
    (bif Nat.blt pc 28 then (bif Nat.beq pc 27 then some (.iload_n 3, 1, 3, 0, 0, mj_u) else none) else
     (bif Nat.blt pc 31 then (bif Nat.beq pc 28 then some (.invokevirtual 79, 3, 17, 0, 669, mj_u) else none) else
      (bif Nat.beq pc 31 then some (.ireturn, 1, 0, 0, 0, mj_u) else none)))))
def m_W_set : mj_M := (74, prog_1_method_3_code, 4, (Option.some Jvm.ClassFile.FieldType.int), 8, 3, 646, 644, 645, 45, 32, k_W_set)
/-- WatershedMap.checkField(II)V -/
def k_W_checkField : Nat → Option mj_I := fun pc =>
  bif Nat.blt pc 12 then (bif Nat.blt pc 5 then (bif Nat.blt pc 1 then (bif Nat.beq pc 0 then some (.aload_n 0, 1, 0, 0, 0, mj_u) else none) else
    (bif Nat.blt pc 4 then (bif Nat.beq pc 1 then some (.getfield 10, 3, 8, 0, 296, .null) else none) else
     (bif Nat.beq pc 4 then some (.iload_n 1, 1, 1, 0, 0, mj_u) else none))) else
   (bif Nat.blt pc 6 then (bif Nat.beq pc 5 then some (.iload_n 2, 1, 2, 0, 0, mj_u) else none) else
    (bif Nat.blt pc 9 then (bif Nat.beq pc 6 then some (.invokevirtual 209, 3, 13, 0, 651, mj_u) else none) else
     (bif Nat.beq pc 9 then some (.ifCond .ne 13, 3, 22, 0, 0, mj_u) else none)))) else
  (bif Nat.blt pc 18 then (bif Nat.blt pc 15 then (bif Nat.beq pc 12 then some (.new 213, 3, 1000, 0, 0, mj_u) else none) else
    (bif Nat.blt pc 16 then (bif Nat.beq pc 15 then some (.dup, 1, 0, 0, 0, mj_u) else none) else
     (bif Nat.beq pc 16 then some (.ldc 215, 2, 0, 0, 0, mj_u) else none))) else
   (bif Nat.blt pc 21 then (bif Nat.beq pc 18 then some (.invokespecial 217, 3, 1002, 0, 662, mj_u) else none) else
    (bif Nat.blt pc 22 then (bif Nat.beq pc 21 then some (.athrow, 1, 0, 0, 0, mj_u) else none) else
     (bif Nat.beq pc 22 then some (.return_, 1, 0, 0, 0, mj_u) else none))))
def m_W_checkField : mj_M := (75, prog_1_method_34_code, 3, (Option.none : Option Jvm.ClassFile.FieldType), 8, 2, 650, 649, 21, 45, 23, k_W_checkField)
/-- WatershedMap.tilt(III)I -/
def k_W_tilt : Nat → Option mj_I := fun pc =>
  bif Nat.blt pc 21 then (bif Nat.blt pc 9 then (bif Nat.blt pc 3 then (bif Nat.blt pc 1 then (bif Nat.beq pc 0 then some (.iload_n 1, 1, 1, 0, 0, mj_u) else none) else
     (bif Nat.beq pc 1 then some (.bipush (-100), 2, 0, 0, 0, .int (-100)) else none)) else
    (bif Nat.blt pc 5 then (bif Nat.beq pc 3 then some (.bipush 100, 2, 0, 0, 0, .int 100) else none) else
     (bif Nat.blt pc 8 then (bif Nat.beq pc 5 then some (.invokestatic 65, 3, 73, 0, 569, mj_u) else none) else
      (bif Nat.beq pc 8 then some (.iload_n 2, 1, 2, 0, 0, mj_u) else none)))) else
   (bif Nat.blt pc 16 then (bif Nat.blt pc 11 then (bif Nat.beq pc 9 then some (.bipush (-100), 2, 0, 0, 0, .int (-100)) else none) else
     (bif Nat.blt pc 13 then (bif Nat.beq pc 11 then some (.bipush 100, 2, 0, 0, 0, .int 100) else none) else
      (bif Nat.beq pc 13 then some (.invokestatic 65, 3, 73, 0, 569, mj_u) else none))) else
    (bif Nat.blt pc 17 then (bif Nat.beq pc 16 then some (.iload_n 3, 1, 3, 0, 0, mj_u) else none) else
     (bif Nat.blt pc 19 then (bif Nat.beq pc 17 then some (.bipush (-100), 2, 0, 0, 0, .int (-100)) else none) else
      (bif Nat.beq pc 19 then some (.bipush 100, 2, 0, 0, 0, .int 100) else none))))) else
  (bif Nat.blt pc 30 then (bif Nat.blt pc 25 then (bif Nat.blt pc 24 then (bif Nat.beq pc 21 then some (.invokestatic 65, 3, 73, 0, 569, mj_u) else none) else
     (bif Nat.beq pc 24 then some (.aload_n 0, 1, 0, 0, 0, mj_u) else none)) else
    (bif Nat.blt pc 28 then (bif Nat.beq pc 25 then some (.getfield 10, 3, 8, 0, 296, .null) else none) else
     (bif Nat.blt pc 29 then (bif Nat.beq pc 28 then some (.iload_n 1, 1, 1, 0, 0, mj_u) else none) else
      (bif Nat.beq pc 29 then some (.iload_n 2, 1, 2, 0, 0, mj_u) else none)))) else
   (bif Nat.blt pc 35 then (bif Nat.blt pc 31 then (bif Nat.beq pc 30 then some (.iload_n 3, 1, 3, 0, 0, mj_u) else none) else
     (bif Nat.blt pc 34 then (bif Nat.beq pc 31 then some (.invokevirtual 82, 3, 77, 0, 677, mj_u) else none) else
      (bif Nat.beq pc 34 then some (.aload_n 0, 1, 0, 0, 0, mj_u) else none))) else
    (bif Nat.blt pc 38 then (bif Nat.beq pc 35 then some (.getfield 10, 3, 8, 0, 296, .null) else none) else
     (bif Nat.blt pc 41 then (bif Nat.beq pc 38 then some (.invokevirtual 85, 3, 60, 0, 681, mj_u) else none) else
      (bif Nat.beq pc 41 then some (.ireturn, 1, 0, 0, 0, mj_u) else none)))))
def m_W_tilt : mj_M := (76, prog_1_method_4_code, 4, (Option.some Jvm.ClassFile.FieldType.int), 8, 3, 676, 674, 675, 45, 42, k_W_tilt)
/-- WatershedMap$Land.slope(III)V -/
def k_Land_slope : Nat → Option mj_I := fun pc =>
  bif Nat.blt pc 52 then (bif Nat.blt pc 27 then (bif Nat.blt pc 13 then (bif Nat.blt pc 5 then (bif Nat.blt pc 1 then (bif Nat.beq pc 0 then some (.iconst 0, 1, 0, 0, 0, .int 0) else none) else
      (bif Nat.blt pc 3 then (bif Nat.beq pc 1 then some (.istore 4, 2, 4, 0, 0, mj_u) else none) else
       (bif Nat.beq pc 3 then some (.iload 4, 2, 4, 0, 0, mj_u) else none))) else
     (bif Nat.blt pc 9 then (bif Nat.blt pc 6 then (bif Nat.beq pc 5 then some (.aload_n 0, 1, 0, 0, 0, mj_u) else none) else
       (bif Nat.beq pc 6 then some (.getfield 25, 3, 4, 4, 99, .int 0) else none)) else
      (bif Nat.blt pc 12 then (bif Nat.beq pc 9 then some (.if_icmp .ge 90, 3, 99, 0, 0, mj_u) else none) else
       (bif Nat.beq pc 12 then some (.iconst 0, 1, 0, 0, 0, .int 0) else none)))) else
    (bif Nat.blt pc 18 then (bif Nat.blt pc 15 then (bif Nat.beq pc 13 then some (.istore 5, 2, 5, 0, 0, mj_u) else none) else
      (bif Nat.blt pc 17 then (bif Nat.beq pc 15 then some (.iload 5, 2, 5, 0, 0, mj_u) else none) else
       (bif Nat.beq pc 17 then some (.aload_n 0, 1, 0, 0, 0, mj_u) else none))) else
     (bif Nat.blt pc 24 then (bif Nat.blt pc 21 then (bif Nat.beq pc 18 then some (.getfield 21, 3, 4, 3, 95, .int 0) else none) else
       (bif Nat.beq pc 21 then some (.if_icmp .ge 72, 3, 93, 0, 0, mj_u) else none)) else
      (bif Nat.blt pc 25 then (bif Nat.beq pc 24 then some (.aload_n 0, 1, 0, 0, 0, mj_u) else none) else
       (bif Nat.beq pc 25 then some (.iload 5, 2, 5, 0, 0, mj_u) else none))))) else
   (bif Nat.blt pc 41 then (bif Nat.blt pc 34 then (bif Nat.blt pc 29 then (bif Nat.beq pc 27 then some (.iload 4, 2, 4, 0, 0, mj_u) else none) else
      (bif Nat.blt pc 32 then (bif Nat.beq pc 29 then some (.invokevirtual 47, 3, 12, 0, 288, mj_u) else none) else
       (bif Nat.beq pc 32 then some (.istore 6, 2, 6, 0, 0, mj_u) else none))) else
     (bif Nat.blt pc 38 then (bif Nat.blt pc 36 then (bif Nat.beq pc 34 then some (.iload 5, 2, 5, 0, 0, mj_u) else none) else
       (bif Nat.beq pc 36 then some (.bipush 7, 2, 0, 0, 0, .int 7) else none)) else
      (bif Nat.blt pc 39 then (bif Nat.beq pc 38 then some (.imul, 1, 0, 0, 0, mj_u) else none) else
       (bif Nat.beq pc 39 then some (.iload 4, 2, 4, 0, 0, mj_u) else none)))) else
    (bif Nat.blt pc 47 then (bif Nat.blt pc 44 then (bif Nat.blt pc 43 then (bif Nat.beq pc 41 then some (.bipush 13, 2, 0, 0, 0, .int 13) else none) else
       (bif Nat.beq pc 43 then some (.imul, 1, 0, 0, 0, mj_u) else none)) else
      (bif Nat.blt pc 45 then (bif Nat.beq pc 44 then some (.iadd, 1, 0, 0, 0, mj_u) else none) else
       (bif Nat.beq pc 45 then some (.iload 5, 2, 5, 0, 0, mj_u) else none))) else
     (bif Nat.blt pc 50 then (bif Nat.blt pc 49 then (bif Nat.beq pc 47 then some (.iload 4, 2, 4, 0, 0, mj_u) else none) else
       (bif Nat.beq pc 49 then some (.imul, 1, 0, 0, 0, mj_u) else none)) else
      (bif Nat.blt pc 51 then (bif Nat.beq pc 50 then some (.iconst 5, 1, 0, 0, 0, .int 5) else none) else
       (bif Nat.beq pc 51 then some (.imul, 1, 0, 0, 0, mj_u) else none)))))) else
  (bif Nat.blt pc 73 then (bif Nat.blt pc 62 then (bif Nat.blt pc 56 then (bif Nat.blt pc 53 then (bif Nat.beq pc 52 then some (.iadd, 1, 0, 0, 0, mj_u) else none) else
      (bif Nat.blt pc 55 then (bif Nat.beq pc 53 then some (.bipush 17, 2, 0, 0, 0, .int 17) else none) else
       (bif Nat.beq pc 55 then some (.irem, 1, 0, 0, 0, mj_u) else none))) else
     (bif Nat.blt pc 59 then (bif Nat.blt pc 58 then (bif Nat.beq pc 56 then some (.istore 7, 2, 7, 0, 0, mj_u) else none) else
       (bif Nat.beq pc 58 then some (.aload_n 0, 1, 0, 0, 0, mj_u) else none)) else
      (bif Nat.blt pc 61 then (bif Nat.beq pc 59 then some (.iload 6, 2, 6, 0, 0, mj_u) else none) else
       (bif Nat.beq pc 61 then some (.aload_n 0, 1, 0, 0, 0, mj_u) else none)))) else
    (bif Nat.blt pc 68 then (bif Nat.blt pc 65 then (bif Nat.beq pc 62 then some (.getfield 9, 3, 4, 0, 87, .null) else none) else
      (bif Nat.blt pc 67 then (bif Nat.beq pc 65 then some (.iload 6, 2, 6, 0, 0, mj_u) else none) else
       (bif Nat.beq pc 67 then some (.iaload, 1, 0, 0, 0, mj_u) else none))) else
     (bif Nat.blt pc 71 then (bif Nat.blt pc 69 then (bif Nat.beq pc 68 then some (.iload_n 1, 1, 1, 0, 0, mj_u) else none) else
       (bif Nat.beq pc 69 then some (.iload 5, 2, 5, 0, 0, mj_u) else none)) else
      (bif Nat.blt pc 72 then (bif Nat.beq pc 71 then some (.imul, 1, 0, 0, 0, mj_u) else none) else
       (bif Nat.beq pc 72 then some (.iadd, 1, 0, 0, 0, mj_u) else none))))) else
   (bif Nat.blt pc 82 then (bif Nat.blt pc 77 then (bif Nat.blt pc 74 then (bif Nat.beq pc 73 then some (.iload_n 2, 1, 2, 0, 0, mj_u) else none) else
      (bif Nat.blt pc 76 then (bif Nat.beq pc 74 then some (.iload 4, 2, 4, 0, 0, mj_u) else none) else
       (bif Nat.beq pc 76 then some (.imul, 1, 0, 0, 0, mj_u) else none))) else
     (bif Nat.blt pc 80 then (bif Nat.blt pc 78 then (bif Nat.beq pc 77 then some (.iadd, 1, 0, 0, 0, mj_u) else none) else
       (bif Nat.beq pc 78 then some (.iload 7, 2, 7, 0, 0, mj_u) else none)) else
      (bif Nat.blt pc 81 then (bif Nat.beq pc 80 then some (.iload_n 3, 1, 3, 0, 0, mj_u) else none) else
       (bif Nat.beq pc 81 then some (.imul, 1, 0, 0, 0, mj_u) else none)))) else
    (bif Nat.blt pc 90 then (bif Nat.blt pc 86 then (bif Nat.blt pc 83 then (bif Nat.beq pc 82 then some (.iadd, 1, 0, 0, 0, mj_u) else none) else
       (bif Nat.beq pc 83 then some (.invokevirtual 80, 3, 17, 0, 333, mj_u) else none)) else
      (bif Nat.blt pc 87 then (bif Nat.beq pc 86 then some (.pop, 1, 0, 0, 0, mj_u) else none) else
       (bif Nat.beq pc 87 then some (.iinc 5 1, 3, 5, 0, 0, .int 1) else none))) else
     (bif Nat.blt pc 96 then (bif Nat.blt pc 93 then (bif Nat.beq pc 90 then some (.goto (-75), 3, 15, 0, 0, mj_u) else none) else
       (bif Nat.beq pc 93 then some (.iinc 4 1, 3, 4, 0, 0, .int 1) else none)) else
      (bif Nat.blt pc 99 then (bif Nat.beq pc 96 then some (.goto (-93), 3, 3, 0, 0, mj_u) else none) else
       (bif Nat.beq pc 99 then some (.return_, 1, 0, 0, 0, mj_u) else none))))))
def m_Land_slope : mj_M := (77, prog_6_method_15_code, 8, (Option.none : Option Jvm.ClassFile.FieldType), 4, 3, 680, 678, 679, 46, 100, k_Land_slope)
/-- WatershedMap.hill(IIII)I -/
def k_W_hill : Nat → Option mj_I := fun pc =>
  bif Nat.blt pc 18 then (bif Nat.blt pc 7 then (bif Nat.blt pc 2 then (bif Nat.blt pc 1 then (bif Nat.beq pc 0 then some (.aload_n 0, 1, 0, 0, 0, mj_u) else none) else
     (bif Nat.beq pc 1 then some (.iload_n 1, 1, 1, 0, 0, mj_u) else none)) else
    (bif Nat.blt pc 3 then (bif Nat.beq pc 2 then some (.iload_n 2, 1, 2, 0, 0, mj_u) else none) else
     (bif Nat.blt pc 6 then (bif Nat.beq pc 3 then some (.invokevirtual 72, 3, 75, 0, 647, mj_u) else none) else
      (bif Nat.beq pc 6 then some (.iload_n 3, 1, 3, 0, 0, mj_u) else none)))) else
   (bif Nat.blt pc 10 then (bif Nat.blt pc 8 then (bif Nat.beq pc 7 then some (.iconst 0, 1, 0, 0, 0, .int 0) else none) else
     (bif Nat.beq pc 8 then some (.bipush 8, 2, 0, 0, 0, .int 8) else none)) else
    (bif Nat.blt pc 13 then (bif Nat.beq pc 10 then some (.invokestatic 65, 3, 73, 0, 569, mj_u) else none) else
     (bif Nat.blt pc 15 then (bif Nat.beq pc 13 then some (.iload 4, 2, 4, 0, 0, mj_u) else none) else
      (bif Nat.beq pc 15 then some (.sipush (-500), 3, 0, 0, 0, .int (-500)) else none))))) else
  (bif Nat.blt pc 29 then (bif Nat.blt pc 24 then (bif Nat.blt pc 21 then (bif Nat.beq pc 18 then some (.sipush 500, 3, 0, 0, 0, .int 500) else none) else
     (bif Nat.beq pc 21 then some (.invokestatic 65, 3, 73, 0, 569, mj_u) else none)) else
    (bif Nat.blt pc 25 then (bif Nat.beq pc 24 then some (.aload_n 0, 1, 0, 0, 0, mj_u) else none) else
     (bif Nat.blt pc 28 then (bif Nat.beq pc 25 then some (.getfield 10, 3, 8, 0, 296, .null) else none) else
      (bif Nat.beq pc 28 then some (.iload_n 1, 1, 1, 0, 0, mj_u) else none)))) else
   (bif Nat.blt pc 31 then (bif Nat.blt pc 30 then (bif Nat.beq pc 29 then some (.iload_n 2, 1, 2, 0, 0, mj_u) else none) else
     (bif Nat.beq pc 30 then some (.iload_n 3, 1, 3, 0, 0, mj_u) else none)) else
    (bif Nat.blt pc 33 then (bif Nat.beq pc 31 then some (.iload 4, 2, 4, 0, 0, mj_u) else none) else
     (bif Nat.blt pc 36 then (bif Nat.beq pc 33 then some (.invokevirtual 89, 3, 79, 0, 689, mj_u) else none) else
      (bif Nat.beq pc 36 then some (.ireturn, 1, 0, 0, 0, mj_u) else none)))))
def m_W_hill : mj_M := (78, prog_1_method_5_code, 5, (Option.some Jvm.ClassFile.FieldType.int), 8, 4, 688, 686, 687, 45, 37, k_W_hill)
/-- WatershedMap$Land.raise(IIII)I -/
def k_Land_raise : Nat → Option mj_I := fun pc =>
  bif Nat.blt pc 63 then (bif Nat.blt pc 34 then (bif Nat.blt pc 13 then (bif Nat.blt pc 5 then (bif Nat.blt pc 3 then (bif Nat.blt pc 1 then (bif Nat.beq pc 0 then some (.iconst 0, 1, 0, 0, 0, .int 0) else none) else
       (bif Nat.beq pc 1 then some (.istore 5, 2, 5, 0, 0, mj_u) else none)) else
      (bif Nat.blt pc 4 then (bif Nat.beq pc 3 then some (.iload_n 3, 1, 3, 0, 0, mj_u) else none) else
       (bif Nat.beq pc 4 then some (.iload_n 3, 1, 3, 0, 0, mj_u) else none))) else
     (bif Nat.blt pc 8 then (bif Nat.blt pc 6 then (bif Nat.beq pc 5 then some (.imul, 1, 0, 0, 0, mj_u) else none) else
       (bif Nat.beq pc 6 then some (.istore 6, 2, 6, 0, 0, mj_u) else none)) else
      (bif Nat.blt pc 9 then (bif Nat.beq pc 8 then some (.iconst 0, 1, 0, 0, 0, .int 0) else none) else
       (bif Nat.blt pc 11 then (bif Nat.beq pc 9 then some (.istore 7, 2, 7, 0, 0, mj_u) else none) else
        (bif Nat.beq pc 11 then some (.iload 7, 2, 7, 0, 0, mj_u) else none))))) else
    (bif Nat.blt pc 23 then (bif Nat.blt pc 17 then (bif Nat.blt pc 14 then (bif Nat.beq pc 13 then some (.aload_n 0, 1, 0, 0, 0, mj_u) else none) else
       (bif Nat.beq pc 14 then some (.getfield 25, 3, 4, 4, 99, .int 0) else none)) else
      (bif Nat.blt pc 20 then (bif Nat.beq pc 17 then some (.if_icmp .ge 116, 3, 133, 0, 0, mj_u) else none) else
       (bif Nat.blt pc 21 then (bif Nat.beq pc 20 then some (.iconst 0, 1, 0, 0, 0, .int 0) else none) else
        (bif Nat.beq pc 21 then some (.istore 8, 2, 8, 0, 0, mj_u) else none)))) else
     (bif Nat.blt pc 26 then (bif Nat.blt pc 25 then (bif Nat.beq pc 23 then some (.iload 8, 2, 8, 0, 0, mj_u) else none) else
       (bif Nat.beq pc 25 then some (.aload_n 0, 1, 0, 0, 0, mj_u) else none)) else
      (bif Nat.blt pc 29 then (bif Nat.beq pc 26 then some (.getfield 21, 3, 4, 3, 95, .int 0) else none) else
       (bif Nat.blt pc 32 then (bif Nat.beq pc 29 then some (.if_icmp .ge 98, 3, 127, 0, 0, mj_u) else none) else
        (bif Nat.beq pc 32 then some (.iload 8, 2, 8, 0, 0, mj_u) else none)))))) else
   (bif Nat.blt pc 47 then (bif Nat.blt pc 40 then (bif Nat.blt pc 36 then (bif Nat.blt pc 35 then (bif Nat.beq pc 34 then some (.iload_n 1, 1, 1, 0, 0, mj_u) else none) else
       (bif Nat.beq pc 35 then some (.isub, 1, 0, 0, 0, mj_u) else none)) else
      (bif Nat.blt pc 38 then (bif Nat.beq pc 36 then some (.iload 8, 2, 8, 0, 0, mj_u) else none) else
       (bif Nat.blt pc 39 then (bif Nat.beq pc 38 then some (.iload_n 1, 1, 1, 0, 0, mj_u) else none) else
        (bif Nat.beq pc 39 then some (.isub, 1, 0, 0, 0, mj_u) else none)))) else
     (bif Nat.blt pc 43 then (bif Nat.blt pc 41 then (bif Nat.beq pc 40 then some (.imul, 1, 0, 0, 0, mj_u) else none) else
       (bif Nat.beq pc 41 then some (.iload 7, 2, 7, 0, 0, mj_u) else none)) else
      (bif Nat.blt pc 44 then (bif Nat.beq pc 43 then some (.iload_n 2, 1, 2, 0, 0, mj_u) else none) else
       (bif Nat.blt pc 45 then (bif Nat.beq pc 44 then some (.isub, 1, 0, 0, 0, mj_u) else none) else
        (bif Nat.beq pc 45 then some (.iload 7, 2, 7, 0, 0, mj_u) else none))))) else
    (bif Nat.blt pc 53 then (bif Nat.blt pc 49 then (bif Nat.blt pc 48 then (bif Nat.beq pc 47 then some (.iload_n 2, 1, 2, 0, 0, mj_u) else none) else
       (bif Nat.beq pc 48 then some (.isub, 1, 0, 0, 0, mj_u) else none)) else
      (bif Nat.blt pc 50 then (bif Nat.beq pc 49 then some (.imul, 1, 0, 0, 0, mj_u) else none) else
       (bif Nat.blt pc 51 then (bif Nat.beq pc 50 then some (.iadd, 1, 0, 0, 0, mj_u) else none) else
        (bif Nat.beq pc 51 then some (.istore 9, 2, 9, 0, 0, mj_u) else none)))) else
     (bif Nat.blt pc 57 then (bif Nat.blt pc 55 then (bif Nat.beq pc 53 then some (.iload 9, 2, 9, 0, 0, mj_u) else none) else
       (bif Nat.beq pc 55 then some (.iload 6, 2, 6, 0, 0, mj_u) else none)) else
      (bif Nat.blt pc 60 then (bif Nat.beq pc 57 then some (.if_icmp .gt 64, 3, 121, 0, 0, mj_u) else none) else
       (bif Nat.blt pc 61 then (bif Nat.beq pc 60 then some (.aload_n 0, 1, 0, 0, 0, mj_u) else none) else
        (bif Nat.beq pc 61 then some (.iload 8, 2, 8, 0, 0, mj_u) else none))))))) else
  (bif Nat.blt pc 94 then (bif Nat.blt pc 80 then (bif Nat.blt pc 71 then (bif Nat.blt pc 68 then (bif Nat.blt pc 65 then (bif Nat.beq pc 63 then some (.iload 7, 2, 7, 0, 0, mj_u) else none) else
       (bif Nat.beq pc 65 then some (.invokevirtual 47, 3, 12, 0, 288, mj_u) else none)) else
      (bif Nat.blt pc 70 then (bif Nat.beq pc 68 then some (.istore 10, 2, 10, 0, 0, mj_u) else none) else
       (bif Nat.beq pc 70 then some (.aload_n 0, 1, 0, 0, 0, mj_u) else none))) else
     (bif Nat.blt pc 74 then (bif Nat.blt pc 73 then (bif Nat.beq pc 71 then some (.iload 10, 2, 10, 0, 0, mj_u) else none) else
       (bif Nat.beq pc 73 then some (.aload_n 0, 1, 0, 0, 0, mj_u) else none)) else
      (bif Nat.blt pc 77 then (bif Nat.beq pc 74 then some (.getfield 9, 3, 4, 0, 87, .null) else none) else
       (bif Nat.blt pc 79 then (bif Nat.beq pc 77 then some (.iload 10, 2, 10, 0, 0, mj_u) else none) else
        (bif Nat.beq pc 79 then some (.iaload, 1, 0, 0, 0, mj_u) else none))))) else
    (bif Nat.blt pc 88 then (bif Nat.blt pc 83 then (bif Nat.blt pc 82 then (bif Nat.beq pc 80 then some (.iload 4, 2, 4, 0, 0, mj_u) else none) else
       (bif Nat.beq pc 82 then some (.iadd, 1, 0, 0, 0, mj_u) else none)) else
      (bif Nat.blt pc 85 then (bif Nat.beq pc 83 then some (.iload 4, 2, 4, 0, 0, mj_u) else none) else
       (bif Nat.blt pc 87 then (bif Nat.beq pc 85 then some (.iload 9, 2, 9, 0, 0, mj_u) else none) else
        (bif Nat.beq pc 87 then some (.imul, 1, 0, 0, 0, mj_u) else none)))) else
     (bif Nat.blt pc 91 then (bif Nat.blt pc 90 then (bif Nat.beq pc 88 then some (.iload 6, 2, 6, 0, 0, mj_u) else none) else
       (bif Nat.beq pc 90 then some (.iconst 1, 1, 0, 0, 0, .int 1) else none)) else
      (bif Nat.blt pc 92 then (bif Nat.beq pc 91 then some (.iadd, 1, 0, 0, 0, mj_u) else none) else
       (bif Nat.blt pc 93 then (bif Nat.beq pc 92 then some (.idiv, 1, 0, 0, 0, mj_u) else none) else
        (bif Nat.beq pc 93 then some (.isub, 1, 0, 0, 0, mj_u) else none)))))) else
   (bif Nat.blt pc 114 then (bif Nat.blt pc 104 then (bif Nat.blt pc 99 then (bif Nat.blt pc 97 then (bif Nat.beq pc 94 then some (.invokevirtual 80, 3, 17, 0, 333, mj_u) else none) else
       (bif Nat.beq pc 97 then some (.istore 11, 2, 11, 0, 0, mj_u) else none)) else
      (bif Nat.blt pc 101 then (bif Nat.beq pc 99 then some (.iload 5, 2, 5, 0, 0, mj_u) else none) else
       (bif Nat.blt pc 103 then (bif Nat.beq pc 101 then some (.iload 11, 2, 11, 0, 0, mj_u) else none) else
        (bif Nat.beq pc 103 then some (.aload_n 0, 1, 0, 0, 0, mj_u) else none)))) else
     (bif Nat.blt pc 109 then (bif Nat.blt pc 107 then (bif Nat.beq pc 104 then some (.getfield 9, 3, 4, 0, 87, .null) else none) else
       (bif Nat.beq pc 107 then some (.iload 10, 2, 10, 0, 0, mj_u) else none)) else
      (bif Nat.blt pc 110 then (bif Nat.beq pc 109 then some (.iaload, 1, 0, 0, 0, mj_u) else none) else
       (bif Nat.blt pc 113 then (bif Nat.beq pc 110 then some (.if_icmp .eq 7, 3, 117, 0, 0, mj_u) else none) else
        (bif Nat.beq pc 113 then some (.iconst 1, 1, 0, 0, 0, .int 1) else none))))) else
    (bif Nat.blt pc 124 then (bif Nat.blt pc 118 then (bif Nat.blt pc 117 then (bif Nat.beq pc 114 then some (.goto 4, 3, 118, 0, 0, mj_u) else none) else
       (bif Nat.beq pc 117 then some (.iconst 0, 1, 0, 0, 0, .int 0) else none)) else
      (bif Nat.blt pc 119 then (bif Nat.beq pc 118 then some (.iadd, 1, 0, 0, 0, mj_u) else none) else
       (bif Nat.blt pc 121 then (bif Nat.beq pc 119 then some (.istore 5, 2, 5, 0, 0, mj_u) else none) else
        (bif Nat.beq pc 121 then some (.iinc 8 1, 3, 8, 0, 0, .int 1) else none)))) else
     (bif Nat.blt pc 130 then (bif Nat.blt pc 127 then (bif Nat.beq pc 124 then some (.goto (-101), 3, 23, 0, 0, mj_u) else none) else
       (bif Nat.beq pc 127 then some (.iinc 7 1, 3, 7, 0, 0, .int 1) else none)) else
      (bif Nat.blt pc 133 then (bif Nat.beq pc 130 then some (.goto (-119), 3, 11, 0, 0, mj_u) else none) else
       (bif Nat.blt pc 135 then (bif Nat.beq pc 133 then some (.iload 5, 2, 5, 0, 0, mj_u) else none) else
        (bif Nat.beq pc 135 then some (.ireturn, 1, 0, 0, 0, mj_u) else none)))))))
def m_Land_raise : mj_M := (79, prog_6_method_16_code, 12, (Option.some Jvm.ClassFile.FieldType.int), 4, 4, 692, 690, 691, 46, 136, k_Land_raise)
/-- WatershedMap.dig(IIIII)I -/
def k_W_dig : Nat → Option mj_I := fun pc =>
  bif Nat.blt pc 16 then (bif Nat.blt pc 7 then (bif Nat.blt pc 2 then (bif Nat.blt pc 1 then (bif Nat.beq pc 0 then some (.aload_n 0, 1, 0, 0, 0, mj_u) else none) else
     (bif Nat.beq pc 1 then some (.iload_n 1, 1, 1, 0, 0, mj_u) else none)) else
    (bif Nat.blt pc 3 then (bif Nat.beq pc 2 then some (.iload_n 2, 1, 2, 0, 0, mj_u) else none) else
     (bif Nat.blt pc 6 then (bif Nat.beq pc 3 then some (.invokevirtual 72, 3, 75, 0, 647, mj_u) else none) else
      (bif Nat.beq pc 6 then some (.aload_n 0, 1, 0, 0, 0, mj_u) else none)))) else
   (bif Nat.blt pc 10 then (bif Nat.blt pc 8 then (bif Nat.beq pc 7 then some (.iload_n 3, 1, 3, 0, 0, mj_u) else none) else
     (bif Nat.beq pc 8 then some (.iload 4, 2, 4, 0, 0, mj_u) else none)) else
    (bif Nat.blt pc 13 then (bif Nat.beq pc 10 then some (.invokevirtual 72, 3, 75, 0, 647, mj_u) else none) else
     (bif Nat.blt pc 15 then (bif Nat.beq pc 13 then some (.iload 5, 2, 5, 0, 0, mj_u) else none) else
      (bif Nat.beq pc 15 then some (.iconst 0, 1, 0, 0, 0, .int 0) else none))))) else
  (bif Nat.blt pc 27 then (bif Nat.blt pc 22 then (bif Nat.blt pc 19 then (bif Nat.beq pc 16 then some (.sipush 999, 3, 0, 0, 0, .int 999) else none) else
     (bif Nat.beq pc 19 then some (.invokestatic 65, 3, 73, 0, 569, mj_u) else none)) else
    (bif Nat.blt pc 23 then (bif Nat.beq pc 22 then some (.aload_n 0, 1, 0, 0, 0, mj_u) else none) else
     (bif Nat.blt pc 26 then (bif Nat.beq pc 23 then some (.getfield 10, 3, 8, 0, 296, .null) else none) else
      (bif Nat.beq pc 26 then some (.iload_n 1, 1, 1, 0, 0, mj_u) else none)))) else
   (bif Nat.blt pc 31 then (bif Nat.blt pc 28 then (bif Nat.beq pc 27 then some (.iload_n 2, 1, 2, 0, 0, mj_u) else none) else
     (bif Nat.blt pc 29 then (bif Nat.beq pc 28 then some (.iload_n 3, 1, 3, 0, 0, mj_u) else none) else
      (bif Nat.beq pc 29 then some (.iload 4, 2, 4, 0, 0, mj_u) else none))) else
    (bif Nat.blt pc 33 then (bif Nat.beq pc 31 then some (.iload 5, 2, 5, 0, 0, mj_u) else none) else
     (bif Nat.blt pc 36 then (bif Nat.beq pc 33 then some (.invokevirtual 93, 3, 81, 0, 700, mj_u) else none) else
      (bif Nat.beq pc 36 then some (.ireturn, 1, 0, 0, 0, mj_u) else none)))))
def m_W_dig : mj_M := (80, prog_1_method_6_code, 6, (Option.some Jvm.ClassFile.FieldType.int), 8, 5, 699, 697, 698, 45, 37, k_W_dig)
/-- WatershedMap$Land.cutDown(IIIII)I -/
def k_Land_cutDown : Nat → Option mj_I := fun pc =>
  bif Nat.blt pc 36 then (bif Nat.blt pc 16 then (bif Nat.blt pc 6 then (bif Nat.blt pc 3 then (bif Nat.blt pc 1 then (bif Nat.beq pc 0 then some (.iconst 0, 1, 0, 0, 0, .int 0) else none) else
      (bif Nat.beq pc 1 then some (.istore 6, 2, 6, 0, 0, mj_u) else none)) else
     (bif Nat.blt pc 4 then (bif Nat.beq pc 3 then some (.iload_n 1, 1, 1, 0, 0, mj_u) else none) else
      (bif Nat.blt pc 5 then (bif Nat.beq pc 4 then some (.iload_n 2, 1, 2, 0, 0, mj_u) else none) else
       (bif Nat.beq pc 5 then some (.iload_n 3, 1, 3, 0, 0, mj_u) else none)))) else
    (bif Nat.blt pc 11 then (bif Nat.blt pc 8 then (bif Nat.beq pc 6 then some (.iload 4, 2, 4, 0, 0, mj_u) else none) else
      (bif Nat.beq pc 8 then some (.invokestatic 83, 3, 82, 0, 704, mj_u) else none)) else
     (bif Nat.blt pc 13 then (bif Nat.beq pc 11 then some (.istore 7, 2, 7, 0, 0, mj_u) else none) else
      (bif Nat.blt pc 14 then (bif Nat.beq pc 13 then some (.iconst 0, 1, 0, 0, 0, .int 0) else none) else
       (bif Nat.beq pc 14 then some (.istore 8, 2, 8, 0, 0, mj_u) else none))))) else
   (bif Nat.blt pc 25 then (bif Nat.blt pc 20 then (bif Nat.blt pc 18 then (bif Nat.beq pc 16 then some (.iload 8, 2, 8, 0, 0, mj_u) else none) else
      (bif Nat.beq pc 18 then some (.iload 7, 2, 7, 0, 0, mj_u) else none)) else
     (bif Nat.blt pc 23 then (bif Nat.beq pc 20 then some (.if_icmp .gt 58, 3, 78, 0, 0, mj_u) else none) else
      (bif Nat.blt pc 24 then (bif Nat.beq pc 23 then some (.aload_n 0, 1, 0, 0, 0, mj_u) else none) else
       (bif Nat.beq pc 24 then some (.iload_n 1, 1, 1, 0, 0, mj_u) else none)))) else
    (bif Nat.blt pc 30 then (bif Nat.blt pc 26 then (bif Nat.beq pc 25 then some (.iload_n 3, 1, 3, 0, 0, mj_u) else none) else
      (bif Nat.blt pc 28 then (bif Nat.beq pc 26 then some (.iload 8, 2, 8, 0, 0, mj_u) else none) else
       (bif Nat.beq pc 28 then some (.iload 7, 2, 7, 0, 0, mj_u) else none))) else
     (bif Nat.blt pc 33 then (bif Nat.beq pc 30 then some (.invokestatic 87, 3, 83, 0, 707, mj_u) else none) else
      (bif Nat.blt pc 34 then (bif Nat.beq pc 33 then some (.iload_n 2, 1, 2, 0, 0, mj_u) else none) else
       (bif Nat.beq pc 34 then some (.iload 4, 2, 4, 0, 0, mj_u) else none)))))) else
  (bif Nat.blt pc 57 then (bif Nat.blt pc 48 then (bif Nat.blt pc 40 then (bif Nat.blt pc 38 then (bif Nat.beq pc 36 then some (.iload 8, 2, 8, 0, 0, mj_u) else none) else
      (bif Nat.beq pc 38 then some (.iload 7, 2, 7, 0, 0, mj_u) else none)) else
     (bif Nat.blt pc 43 then (bif Nat.beq pc 40 then some (.invokestatic 87, 3, 83, 0, 707, mj_u) else none) else
      (bif Nat.blt pc 46 then (bif Nat.beq pc 43 then some (.invokevirtual 47, 3, 12, 0, 288, mj_u) else none) else
       (bif Nat.beq pc 46 then some (.istore 9, 2, 9, 0, 0, mj_u) else none)))) else
    (bif Nat.blt pc 52 then (bif Nat.blt pc 49 then (bif Nat.beq pc 48 then some (.aload_n 0, 1, 0, 0, 0, mj_u) else none) else
      (bif Nat.beq pc 49 then some (.getfield 9, 3, 4, 0, 87, .null) else none)) else
     (bif Nat.blt pc 54 then (bif Nat.beq pc 52 then some (.iload 9, 2, 9, 0, 0, mj_u) else none) else
      (bif Nat.blt pc 55 then (bif Nat.beq pc 54 then some (.iaload, 1, 0, 0, 0, mj_u) else none) else
       (bif Nat.beq pc 55 then some (.iload 5, 2, 5, 0, 0, mj_u) else none))))) else
   (bif Nat.blt pc 68 then (bif Nat.blt pc 61 then (bif Nat.blt pc 60 then (bif Nat.beq pc 57 then some (.if_icmp .le 15, 3, 72, 0, 0, mj_u) else none) else
      (bif Nat.beq pc 60 then some (.aload_n 0, 1, 0, 0, 0, mj_u) else none)) else
     (bif Nat.blt pc 64 then (bif Nat.beq pc 61 then some (.getfield 9, 3, 4, 0, 87, .null) else none) else
      (bif Nat.blt pc 66 then (bif Nat.beq pc 64 then some (.iload 9, 2, 9, 0, 0, mj_u) else none) else
       (bif Nat.beq pc 66 then some (.iload 5, 2, 5, 0, 0, mj_u) else none)))) else
    (bif Nat.blt pc 75 then (bif Nat.blt pc 69 then (bif Nat.beq pc 68 then some (.iastore, 1, 0, 0, 0, mj_u) else none) else
      (bif Nat.blt pc 72 then (bif Nat.beq pc 69 then some (.iinc 6 1, 3, 6, 0, 0, .int 1) else none) else
       (bif Nat.beq pc 72 then some (.iinc 8 1, 3, 8, 0, 0, .int 1) else none))) else
     (bif Nat.blt pc 78 then (bif Nat.beq pc 75 then some (.goto (-59), 3, 16, 0, 0, mj_u) else none) else
      (bif Nat.blt pc 80 then (bif Nat.beq pc 78 then some (.iload 6, 2, 6, 0, 0, mj_u) else none) else
       (bif Nat.beq pc 80 then some (.ireturn, 1, 0, 0, 0, mj_u) else none))))))
def m_Land_cutDown : mj_M := (81, prog_6_method_17_code, 10, (Option.some Jvm.ClassFile.FieldType.int), 4, 5, 703, 701, 702, 46, 81, k_Land_cutDown)
/-- WatershedMap$Land.stepsBetween(IIII)I static -/
def k_Land_stepsBetween : Nat → Option mj_I := fun pc =>
  bif Nat.blt pc 7 then (bif Nat.blt pc 2 then (bif Nat.blt pc 1 then (bif Nat.beq pc 0 then some (.iload_n 2, 1, 2, 0, 0, mj_u) else none) else
    (bif Nat.beq pc 1 then some (.iload_n 0, 1, 0, 0, 0, mj_u) else none)) else
   (bif Nat.blt pc 3 then (bif Nat.beq pc 2 then some (.isub, 1, 0, 0, 0, mj_u) else none) else
    (bif Nat.blt pc 6 then (bif Nat.beq pc 3 then some (.invokestatic 58, 3, 54, 0, 484, mj_u) else none) else
     (bif Nat.beq pc 6 then some (.iload_n 3, 1, 3, 0, 0, mj_u) else none)))) else
  (bif Nat.blt pc 9 then (bif Nat.blt pc 8 then (bif Nat.beq pc 7 then some (.iload_n 1, 1, 1, 0, 0, mj_u) else none) else
    (bif Nat.beq pc 8 then some (.isub, 1, 0, 0, 0, mj_u) else none)) else
   (bif Nat.blt pc 12 then (bif Nat.beq pc 9 then some (.invokestatic 58, 3, 54, 0, 484, mj_u) else none) else
    (bif Nat.blt pc 15 then (bif Nat.beq pc 12 then some (.invokestatic 77, 3, 26, 0, 487, mj_u) else none) else
     (bif Nat.beq pc 15 then some (.ireturn, 1, 0, 0, 0, mj_u) else none))))
def m_Land_stepsBetween : mj_M := (82, prog_6_method_18_code, 4, (Option.some Jvm.ClassFile.FieldType.int), 4, 4, 706, 705, 0, 46, 16, k_Land_stepsBetween)
/-- WatershedMap$Land.between(IIII)I static -/
def k_Land_between : Nat → Option mj_I := fun pc =>
  bif Nat.blt pc 14 then (bif Nat.blt pc 9 then (bif Nat.blt pc 2 then (bif Nat.blt pc 1 then (bif Nat.beq pc 0 then some (.iload_n 3, 1, 3, 0, 0, mj_u) else none) else
     (bif Nat.beq pc 1 then some (.iconst 1, 1, 0, 0, 0, .int 1) else none)) else
    (bif Nat.blt pc 5 then (bif Nat.beq pc 2 then some (.if_icmp .ge 7, 3, 9, 0, 0, mj_u) else none) else
     (bif Nat.blt pc 6 then (bif Nat.beq pc 5 then some (.iload_n 0, 1, 0, 0, 0, mj_u) else none) else
      (bif Nat.beq pc 6 then some (.goto 20, 3, 26, 0, 0, mj_u) else none)))) else
   (bif Nat.blt pc 11 then (bif Nat.blt pc 10 then (bif Nat.beq pc 9 then some (.iload_n 0, 1, 0, 0, 0, mj_u) else none) else
     (bif Nat.beq pc 10 then some (.iconst 2, 1, 0, 0, 0, .int 2) else none)) else
    (bif Nat.blt pc 12 then (bif Nat.beq pc 11 then some (.iload_n 2, 1, 2, 0, 0, mj_u) else none) else
     (bif Nat.blt pc 13 then (bif Nat.beq pc 12 then some (.imul, 1, 0, 0, 0, mj_u) else none) else
      (bif Nat.beq pc 13 then some (.iload_n 1, 1, 1, 0, 0, mj_u) else none))))) else
  (bif Nat.blt pc 19 then (bif Nat.blt pc 16 then (bif Nat.blt pc 15 then (bif Nat.beq pc 14 then some (.iload_n 0, 1, 0, 0, 0, mj_u) else none) else
     (bif Nat.beq pc 15 then some (.isub, 1, 0, 0, 0, mj_u) else none)) else
    (bif Nat.blt pc 17 then (bif Nat.beq pc 16 then some (.imul, 1, 0, 0, 0, mj_u) else none) else
     (bif Nat.blt pc 18 then (bif Nat.beq pc 17 then some (.iload_n 3, 1, 3, 0, 0, mj_u) else none) else
      (bif Nat.beq pc 18 then some (.iadd, 1, 0, 0, 0, mj_u) else none)))) else
   (bif Nat.blt pc 22 then (bif Nat.blt pc 20 then (bif Nat.beq pc 19 then some (.iconst 2, 1, 0, 0, 0, .int 2) else none) else
     (bif Nat.blt pc 21 then (bif Nat.beq pc 20 then some (.iload_n 3, 1, 3, 0, 0, mj_u) else none) else
      (bif Nat.beq pc 21 then some (.imul, 1, 0, 0, 0, mj_u) else none))) else
    (bif Nat.blt pc 25 then (bif Nat.beq pc 22 then some (.invokestatic 90, 3, 84, 0, 710, mj_u) else none) else
     (bif Nat.blt pc 26 then (bif Nat.beq pc 25 then some (.iadd, 1, 0, 0, 0, mj_u) else none) else
      (bif Nat.beq pc 26 then some (.ireturn, 1, 0, 0, 0, mj_u) else none)))))
def m_Land_between : mj_M := (83, prog_6_method_19_code, 4, (Option.some Jvm.ClassFile.FieldType.int), 4, 4, 709, 708, 0, 46, 27, k_Land_between)
/-- java/lang/Math.floorDiv(II)I static -/
def k_Math_floorDiv : Nat → Option mj_I := fun pc =>
  bif Nat.blt pc 11 then (bif Nat.blt pc 4 then (bif Nat.blt pc 2 then (bif Nat.blt pc 1 then (bif Nat.beq pc 0 then some (.iload_n 0, 1, 0, 0, 0, mj_u) else none) else
     (bif Nat.beq pc 1 then some (.iload_n 1, 1, 1, 0, 0, mj_u) else none)) else
    (bif Nat.blt pc 3 then (bif Nat.beq pc 2 then some (.idiv, 1, 0, 0, 0, mj_u) else none) else
     (bif Nat.beq pc 3 then some (.istore_n 2, 1, 2, 0, 0, mj_u) else none))) else
   (bif Nat.blt pc 6 then (bif Nat.blt pc 5 then (bif Nat.beq pc 4 then some (.iload_n 0, 1, 0, 0, 0, mj_u) else none) else
     (bif Nat.beq pc 5 then some (.iload_n 1, 1, 1, 0, 0, mj_u) else none)) else
    (bif Nat.blt pc 7 then (bif Nat.beq pc 6 then some (.ixor, 1, 0, 0, 0, mj_u) else none) else
     (bif Nat.blt pc 10 then (bif Nat.beq pc 7 then some (.ifCond .ge 14, 3, 21, 0, 0, mj_u) else none) else
      (bif Nat.beq pc 10 then some (.iload_n 2, 1, 2, 0, 0, mj_u) else none))))) else
  (bif Nat.blt pc 18 then (bif Nat.blt pc 13 then (bif Nat.blt pc 12 then (bif Nat.beq pc 11 then some (.iload_n 1, 1, 1, 0, 0, mj_u) else none) else
     (bif Nat.beq pc 12 then some (.imul, 1, 0, 0, 0, mj_u) else none)) else
    (bif Nat.blt pc 14 then (bif Nat.beq pc 13 then some (.iload_n 0, 1, 0, 0, 0, mj_u) else none) else
     (bif Nat.blt pc 17 then (bif Nat.beq pc 14 then some (.if_icmp .eq 7, 3, 21, 0, 0, mj_u) else none) else
      (bif Nat.beq pc 17 then some (.iload_n 2, 1, 2, 0, 0, mj_u) else none)))) else
   (bif Nat.blt pc 20 then (bif Nat.blt pc 19 then (bif Nat.beq pc 18 then some (.iconst 1, 1, 0, 0, 0, .int 1) else none) else
     (bif Nat.beq pc 19 then some (.isub, 1, 0, 0, 0, mj_u) else none)) else
    (bif Nat.blt pc 21 then (bif Nat.beq pc 20 then some (.ireturn, 1, 0, 0, 0, mj_u) else none) else
     (bif Nat.blt pc 22 then (bif Nat.beq pc 21 then some (.iload_n 2, 1, 2, 0, 0, mj_u) else none) else
      (bif Nat.beq pc 22 then some (.ireturn, 1, 0, 0, 0, mj_u) else none)))))
def m_Math_floorDiv : mj_M := (84, prog_22_method_47_code, 3, (Option.some Jvm.ClassFile.FieldType.int), 12, 2, 712, 711, 0, 62, 23, k_Math_floorDiv)
/-- WatershedMap.wear(I)I -/
def k_W_wear : Nat → Option mj_I := fun pc =>
  bif Nat.blt pc 15 then (bif Nat.blt pc 7 then (bif Nat.blt pc 2 then (bif Nat.blt pc 1 then (bif Nat.beq pc 0 then some (.iload_n 1, 1, 1, 0, 0, mj_u) else none) else
     (bif Nat.beq pc 1 then some (.iconst 1, 1, 0, 0, 0, .int 1) else none)) else
    (bif Nat.blt pc 4 then (bif Nat.beq pc 2 then some (.bipush 50, 2, 0, 0, 0, .int 50) else none) else
     (bif Nat.beq pc 4 then some (.invokestatic 65, 3, 73, 0, 569, mj_u) else none))) else
   (bif Nat.blt pc 11 then (bif Nat.blt pc 8 then (bif Nat.beq pc 7 then some (.aload_n 0, 1, 0, 0, 0, mj_u) else none) else
     (bif Nat.beq pc 8 then some (.getfield 21, 3, 8, 1, 297, .null) else none)) else
    (bif Nat.blt pc 12 then (bif Nat.beq pc 11 then some (.aload_n 0, 1, 0, 0, 0, mj_u) else none) else
     (bif Nat.beq pc 12 then some (.getfield 57, 3, 8, 7, 303, .int 0) else none)))) else
  (bif Nat.blt pc 23 then (bif Nat.blt pc 19 then (bif Nat.blt pc 18 then (bif Nat.beq pc 15 then some (.invokevirtual 100, 3, 35, 0, 405, mj_u) else none) else
     (bif Nat.beq pc 18 then some (.aload_n 0, 1, 0, 0, 0, mj_u) else none)) else
    (bif Nat.blt pc 22 then (bif Nat.beq pc 19 then some (.getfield 10, 3, 8, 0, 296, .null) else none) else
     (bif Nat.beq pc 22 then some (.aload_n 0, 1, 0, 0, 0, mj_u) else none))) else
   (bif Nat.blt pc 27 then (bif Nat.blt pc 26 then (bif Nat.beq pc 23 then some (.getfield 21, 3, 8, 1, 297, .null) else none) else
     (bif Nat.beq pc 26 then some (.iload_n 1, 1, 1, 0, 0, mj_u) else none)) else
    (bif Nat.blt pc 30 then (bif Nat.beq pc 27 then some (.invokevirtual 104, 3, 86, 0, 720, mj_u) else none) else
     (bif Nat.beq pc 30 then some (.ireturn, 1, 0, 0, 0, mj_u) else none))))
def m_W_wear : mj_M := (85, prog_1_method_8_code, 2, (Option.some Jvm.ClassFile.FieldType.int), 8, 1, 719, 717, 718, 45, 31, k_W_wear)
/-- WatershedMap$Land.washAway(LWatershedMap$Streams;I)I -/
def k_Land_washAway : Nat → Option mj_I := fun pc =>
  bif Nat.blt pc 58 then (bif Nat.blt pc 29 then (bif Nat.blt pc 14 then (bif Nat.blt pc 4 then (bif Nat.blt pc 2 then (bif Nat.blt pc 1 then (bif Nat.beq pc 0 then some (.iconst 0, 1, 0, 0, 0, .int 0) else none) else
       (bif Nat.beq pc 1 then some (.istore_n 3, 1, 3, 0, 0, mj_u) else none)) else
      (bif Nat.blt pc 3 then (bif Nat.beq pc 2 then some (.iload_n 3, 1, 3, 0, 0, mj_u) else none) else
       (bif Nat.beq pc 3 then some (.aload_n 0, 1, 0, 0, 0, mj_u) else none))) else
     (bif Nat.blt pc 10 then (bif Nat.blt pc 7 then (bif Nat.beq pc 4 then some (.getfield 28, 3, 4, 5, 103, .int 0) else none) else
       (bif Nat.beq pc 7 then some (.if_icmp .ge 66, 3, 73, 0, 0, mj_u) else none)) else
      (bif Nat.blt pc 11 then (bif Nat.beq pc 10 then some (.aload_n 1, 1, 1, 0, 0, mj_u) else none) else
       (bif Nat.beq pc 11 then some (.getfield 93, 3, 6, 2, 130, .null) else none)))) else
    (bif Nat.blt pc 20 then (bif Nat.blt pc 16 then (bif Nat.blt pc 15 then (bif Nat.beq pc 14 then some (.iload_n 3, 1, 3, 0, 0, mj_u) else none) else
       (bif Nat.beq pc 15 then some (.iaload, 1, 0, 0, 0, mj_u) else none)) else
      (bif Nat.blt pc 18 then (bif Nat.beq pc 16 then some (.istore 4, 2, 4, 0, 0, mj_u) else none) else
       (bif Nat.beq pc 18 then some (.iload 4, 2, 4, 0, 0, mj_u) else none))) else
     (bif Nat.blt pc 24 then (bif Nat.blt pc 23 then (bif Nat.beq pc 20 then some (.ifCond .ge 7, 3, 27, 0, 0, mj_u) else none) else
       (bif Nat.beq pc 23 then some (.iconst 0, 1, 0, 0, 0, .int 0) else none)) else
      (bif Nat.blt pc 27 then (bif Nat.beq pc 24 then some (.goto 26, 3, 50, 0, 0, mj_u) else none) else
       (bif Nat.blt pc 28 then (bif Nat.beq pc 27 then some (.iload_n 2, 1, 2, 0, 0, mj_u) else none) else
        (bif Nat.beq pc 28 then some (.aload_n 1, 1, 1, 0, 0, mj_u) else none)))))) else
   (bif Nat.blt pc 42 then (bif Nat.blt pc 35 then (bif Nat.blt pc 33 then (bif Nat.blt pc 32 then (bif Nat.beq pc 29 then some (.getfield 98, 3, 6, 3, 132, .null) else none) else
       (bif Nat.beq pc 32 then some (.iload_n 3, 1, 3, 0, 0, mj_u) else none)) else
      (bif Nat.blt pc 34 then (bif Nat.beq pc 33 then some (.iaload, 1, 0, 0, 0, mj_u) else none) else
       (bif Nat.beq pc 34 then some (.imul, 1, 0, 0, 0, mj_u) else none))) else
     (bif Nat.blt pc 38 then (bif Nat.blt pc 37 then (bif Nat.beq pc 35 then some (.bipush 10, 2, 0, 0, 0, .int 10) else none) else
       (bif Nat.beq pc 37 then some (.idiv, 1, 0, 0, 0, mj_u) else none)) else
      (bif Nat.blt pc 39 then (bif Nat.beq pc 38 then some (.aload_n 0, 1, 0, 0, 0, mj_u) else none) else
       (bif Nat.blt pc 40 then (bif Nat.beq pc 39 then some (.iload_n 3, 1, 3, 0, 0, mj_u) else none) else
        (bif Nat.beq pc 40 then some (.iload 4, 2, 4, 0, 0, mj_u) else none))))) else
    (bif Nat.blt pc 50 then (bif Nat.blt pc 46 then (bif Nat.blt pc 45 then (bif Nat.beq pc 42 then some (.invokevirtual 101, 3, 53, 0, 480, mj_u) else none) else
       (bif Nat.beq pc 45 then some (.iconst 2, 1, 0, 0, 0, .int 2) else none)) else
      (bif Nat.blt pc 47 then (bif Nat.beq pc 46 then some (.idiv, 1, 0, 0, 0, mj_u) else none) else
       (bif Nat.beq pc 47 then some (.invokestatic 74, 3, 59, 0, 506, mj_u) else none))) else
     (bif Nat.blt pc 53 then (bif Nat.blt pc 52 then (bif Nat.beq pc 50 then some (.istore 5, 2, 5, 0, 0, mj_u) else none) else
       (bif Nat.beq pc 52 then some (.aload_n 0, 1, 0, 0, 0, mj_u) else none)) else
      (bif Nat.blt pc 56 then (bif Nat.beq pc 53 then some (.getfield 15, 3, 4, 1, 93, .null) else none) else
       (bif Nat.blt pc 57 then (bif Nat.beq pc 56 then some (.iload_n 3, 1, 3, 0, 0, mj_u) else none) else
        (bif Nat.beq pc 57 then some (.aload_n 0, 1, 0, 0, 0, mj_u) else none))))))) else
  (bif Nat.blt pc 88 then (bif Nat.blt pc 73 then (bif Nat.blt pc 65 then (bif Nat.blt pc 62 then (bif Nat.blt pc 61 then (bif Nat.beq pc 58 then some (.getfield 9, 3, 4, 0, 87, .null) else none) else
       (bif Nat.beq pc 61 then some (.iload_n 3, 1, 3, 0, 0, mj_u) else none)) else
      (bif Nat.blt pc 63 then (bif Nat.beq pc 62 then some (.iaload, 1, 0, 0, 0, mj_u) else none) else
       (bif Nat.beq pc 63 then some (.iload 5, 2, 5, 0, 0, mj_u) else none))) else
     (bif Nat.blt pc 67 then (bif Nat.blt pc 66 then (bif Nat.beq pc 65 then some (.isub, 1, 0, 0, 0, mj_u) else none) else
       (bif Nat.beq pc 66 then some (.iastore, 1, 0, 0, 0, mj_u) else none)) else
      (bif Nat.blt pc 70 then (bif Nat.beq pc 67 then some (.iinc 3 1, 3, 3, 0, 0, .int 1) else none) else
       (bif Nat.beq pc 70 then some (.goto (-68), 3, 2, 0, 0, mj_u) else none)))) else
    (bif Nat.blt pc 78 then (bif Nat.blt pc 75 then (bif Nat.blt pc 74 then (bif Nat.beq pc 73 then some (.iconst 0, 1, 0, 0, 0, .int 0) else none) else
       (bif Nat.beq pc 74 then some (.istore_n 3, 1, 3, 0, 0, mj_u) else none)) else
      (bif Nat.blt pc 76 then (bif Nat.beq pc 75 then some (.iconst 0, 1, 0, 0, 0, .int 0) else none) else
       (bif Nat.beq pc 76 then some (.istore 4, 2, 4, 0, 0, mj_u) else none))) else
     (bif Nat.blt pc 81 then (bif Nat.blt pc 80 then (bif Nat.beq pc 78 then some (.iload 4, 2, 4, 0, 0, mj_u) else none) else
       (bif Nat.beq pc 80 then some (.aload_n 0, 1, 0, 0, 0, mj_u) else none)) else
      (bif Nat.blt pc 84 then (bif Nat.beq pc 81 then some (.getfield 28, 3, 4, 5, 103, .int 0) else none) else
       (bif Nat.blt pc 87 then (bif Nat.beq pc 84 then some (.if_icmp .ge 33, 3, 117, 0, 0, mj_u) else none) else
        (bif Nat.beq pc 87 then some (.iload_n 3, 1, 3, 0, 0, mj_u) else none)))))) else
   (bif Nat.blt pc 105 then (bif Nat.blt pc 95 then (bif Nat.blt pc 91 then (bif Nat.blt pc 89 then (bif Nat.beq pc 88 then some (.aload_n 0, 1, 0, 0, 0, mj_u) else none) else
       (bif Nat.beq pc 89 then some (.iload 4, 2, 4, 0, 0, mj_u) else none)) else
      (bif Nat.blt pc 92 then (bif Nat.beq pc 91 then some (.aload_n 0, 1, 0, 0, 0, mj_u) else none) else
       (bif Nat.beq pc 92 then some (.getfield 15, 3, 4, 1, 93, .null) else none))) else
     (bif Nat.blt pc 98 then (bif Nat.blt pc 97 then (bif Nat.beq pc 95 then some (.iload 4, 2, 4, 0, 0, mj_u) else none) else
       (bif Nat.beq pc 97 then some (.iaload, 1, 0, 0, 0, mj_u) else none)) else
      (bif Nat.blt pc 101 then (bif Nat.beq pc 98 then some (.invokevirtual 80, 3, 17, 0, 333, mj_u) else none) else
       (bif Nat.blt pc 102 then (bif Nat.beq pc 101 then some (.aload_n 0, 1, 0, 0, 0, mj_u) else none) else
        (bif Nat.beq pc 102 then some (.getfield 15, 3, 4, 1, 93, .null) else none))))) else
    (bif Nat.blt pc 110 then (bif Nat.blt pc 108 then (bif Nat.blt pc 107 then (bif Nat.beq pc 105 then some (.iload 4, 2, 4, 0, 0, mj_u) else none) else
       (bif Nat.beq pc 107 then some (.iaload, 1, 0, 0, 0, mj_u) else none)) else
      (bif Nat.blt pc 109 then (bif Nat.beq pc 108 then some (.isub, 1, 0, 0, 0, mj_u) else none) else
       (bif Nat.beq pc 109 then some (.iadd, 1, 0, 0, 0, mj_u) else none))) else
     (bif Nat.blt pc 114 then (bif Nat.blt pc 111 then (bif Nat.beq pc 110 then some (.istore_n 3, 1, 3, 0, 0, mj_u) else none) else
       (bif Nat.beq pc 111 then some (.iinc 4 1, 3, 4, 0, 0, .int 1) else none)) else
      (bif Nat.blt pc 117 then (bif Nat.beq pc 114 then some (.goto (-36), 3, 78, 0, 0, mj_u) else none) else
       (bif Nat.blt pc 118 then (bif Nat.beq pc 117 then some (.iload_n 3, 1, 3, 0, 0, mj_u) else none) else
        (bif Nat.beq pc 118 then some (.ireturn, 1, 0, 0, 0, mj_u) else none)))))))
def m_Land_washAway : mj_M := (86, prog_6_method_21_code, 6, (Option.some Jvm.ClassFile.FieldType.int), 4, 2, 723, 721, 722, 46, 119, k_Land_washAway)
/-- WatershedMap.setBrook(I)I -/
def k_W_setBrook : Nat → Option mj_I := fun pc =>
  bif Nat.blt pc 11 then (bif Nat.blt pc 4 then (bif Nat.blt pc 1 then (bif Nat.beq pc 0 then some (.iload_n 1, 1, 1, 0, 0, mj_u) else none) else
    (bif Nat.blt pc 2 then (bif Nat.beq pc 1 then some (.iconst 1, 1, 0, 0, 0, .int 1) else none) else
     (bif Nat.beq pc 2 then some (.bipush 100, 2, 0, 0, 0, .int 100) else none))) else
   (bif Nat.blt pc 7 then (bif Nat.beq pc 4 then some (.invokestatic 65, 3, 73, 0, 569, mj_u) else none) else
    (bif Nat.blt pc 8 then (bif Nat.beq pc 7 then some (.aload_n 0, 1, 0, 0, 0, mj_u) else none) else
     (bif Nat.beq pc 8 then some (.getfield 57, 3, 8, 7, 303, .int 0) else none)))) else
  (bif Nat.blt pc 14 then (bif Nat.blt pc 12 then (bif Nat.beq pc 11 then some (.istore_n 2, 1, 2, 0, 0, mj_u) else none) else
    (bif Nat.blt pc 13 then (bif Nat.beq pc 12 then some (.aload_n 0, 1, 0, 0, 0, mj_u) else none) else
     (bif Nat.beq pc 13 then some (.iload_n 1, 1, 1, 0, 0, mj_u) else none))) else
   (bif Nat.blt pc 17 then (bif Nat.beq pc 14 then some (.putfield 57, 3, 8, 7, 303, .int 0) else none) else
    (bif Nat.blt pc 18 then (bif Nat.beq pc 17 then some (.iload_n 2, 1, 2, 0, 0, mj_u) else none) else
     (bif Nat.beq pc 18 then some (.ireturn, 1, 0, 0, 0, mj_u) else none))))
def m_W_setBrook : mj_M := (87, prog_1_method_10_code, 3, (Option.some Jvm.ClassFile.FieldType.int), 8, 1, 730, 728, 729, 45, 19, k_W_setBrook)
/-- WatershedMap.map(I)I -/
def k_W_map : Nat → Option mj_I := fun pc =>
  bif Nat.blt pc 6 then (bif Nat.blt pc 2 then (bif Nat.blt pc 1 then (bif Nat.beq pc 0 then some (.iload_n 1, 1, 1, 0, 0, mj_u) else none) else
    (bif Nat.beq pc 1 then some (.iconst 0, 1, 0, 0, 0, .int 0) else none)) else
   (bif Nat.blt pc 3 then (bif Nat.beq pc 2 then some (.iconst 4, 1, 0, 0, 0, .int 4) else none) else
    (bif Nat.beq pc 3 then some (.invokestatic 65, 3, 73, 0, 569, mj_u) else none))) else
  (bif Nat.blt pc 10 then (bif Nat.blt pc 7 then (bif Nat.beq pc 6 then some (.aload_n 0, 1, 0, 0, 0, mj_u) else none) else
    (bif Nat.beq pc 7 then some (.getfield 10, 3, 8, 0, 296, .null) else none)) else
   (bif Nat.blt pc 11 then (bif Nat.beq pc 10 then some (.iload_n 1, 1, 1, 0, 0, mj_u) else none) else
    (bif Nat.blt pc 14 then (bif Nat.beq pc 11 then some (.invokevirtual 118, 3, 57, 0, 498, mj_u) else none) else
     (bif Nat.beq pc 14 then some (.ireturn, 1, 0, 0, 0, mj_u) else none))))
def m_W_map : mj_M := (88, prog_1_method_11_code, 2, (Option.some Jvm.ClassFile.FieldType.int), 8, 1, 737, 735, 736, 45, 15, k_W_map)
/-- WatershedMap.height(II)I -/
def k_W_height : Nat → Option mj_I := fun pc =>
  bif Nat.blt pc 13 then (bif Nat.blt pc 3 then (bif Nat.blt pc 1 then (bif Nat.beq pc 0 then some (.aload_n 0, 1, 0, 0, 0, mj_u) else none) else
    (bif Nat.blt pc 2 then (bif Nat.beq pc 1 then some (.iload_n 1, 1, 1, 0, 0, mj_u) else none) else
     (bif Nat.beq pc 2 then some (.iload_n 2, 1, 2, 0, 0, mj_u) else none))) else
   (bif Nat.blt pc 7 then (bif Nat.blt pc 6 then (bif Nat.beq pc 3 then some (.invokevirtual 72, 3, 75, 0, 647, mj_u) else none) else
     (bif Nat.beq pc 6 then some (.aload_n 0, 1, 0, 0, 0, mj_u) else none)) else
    (bif Nat.blt pc 10 then (bif Nat.beq pc 7 then some (.getfield 10, 3, 8, 0, 296, .null) else none) else
     (bif Nat.beq pc 10 then some (.getfield 122, 3, 4, 0, 92, .null) else none)))) else
  (bif Nat.blt pc 18 then (bif Nat.blt pc 14 then (bif Nat.beq pc 13 then some (.aload_n 0, 1, 0, 0, 0, mj_u) else none) else
    (bif Nat.blt pc 17 then (bif Nat.beq pc 14 then some (.getfield 10, 3, 8, 0, 296, .null) else none) else
     (bif Nat.beq pc 17 then some (.iload_n 1, 1, 1, 0, 0, mj_u) else none))) else
   (bif Nat.blt pc 22 then (bif Nat.blt pc 19 then (bif Nat.beq pc 18 then some (.iload_n 2, 1, 2, 0, 0, mj_u) else none) else
     (bif Nat.beq pc 19 then some (.invokevirtual 75, 3, 12, 0, 668, mj_u) else none)) else
    (bif Nat.blt pc 23 then (bif Nat.beq pc 22 then some (.iaload, 1, 0, 0, 0, mj_u) else none) else
     (bif Nat.beq pc 23 then some (.ireturn, 1, 0, 0, 0, mj_u) else none))))
def m_W_height : mj_M := (89, prog_1_method_12_code, 3, (Option.some Jvm.ClassFile.FieldType.int), 8, 2, 744, 742, 743, 45, 24, k_W_height)
/-- WatershedMap.water(III)I -/
def k_W_water : Nat → Option mj_I := fun pc =>
  bif Nat.blt pc 17 then (bif Nat.blt pc 7 then (bif Nat.blt pc 2 then (bif Nat.blt pc 1 then (bif Nat.beq pc 0 then some (.aload_n 0, 1, 0, 0, 0, mj_u) else none) else
     (bif Nat.beq pc 1 then some (.iload_n 1, 1, 1, 0, 0, mj_u) else none)) else
    (bif Nat.blt pc 3 then (bif Nat.beq pc 2 then some (.iload_n 2, 1, 2, 0, 0, mj_u) else none) else
     (bif Nat.blt pc 6 then (bif Nat.beq pc 3 then some (.invokevirtual 72, 3, 75, 0, 647, mj_u) else none) else
      (bif Nat.beq pc 6 then some (.iload_n 3, 1, 3, 0, 0, mj_u) else none)))) else
   (bif Nat.blt pc 12 then (bif Nat.blt pc 8 then (bif Nat.beq pc 7 then some (.iconst 0, 1, 0, 0, 0, .int 0) else none) else
     (bif Nat.blt pc 9 then (bif Nat.beq pc 8 then some (.iconst 4, 1, 0, 0, 0, .int 4) else none) else
      (bif Nat.beq pc 9 then some (.invokestatic 65, 3, 73, 0, 569, mj_u) else none))) else
    (bif Nat.blt pc 13 then (bif Nat.beq pc 12 then some (.aload_n 0, 1, 0, 0, 0, mj_u) else none) else
     (bif Nat.blt pc 16 then (bif Nat.beq pc 13 then some (.getfield 21, 3, 8, 1, 297, .null) else none) else
      (bif Nat.beq pc 16 then some (.aload_n 0, 1, 0, 0, 0, mj_u) else none))))) else
  (bif Nat.blt pc 31 then (bif Nat.blt pc 24 then (bif Nat.blt pc 20 then (bif Nat.beq pc 17 then some (.getfield 57, 3, 8, 7, 303, .int 0) else none) else
     (bif Nat.blt pc 23 then (bif Nat.beq pc 20 then some (.invokevirtual 100, 3, 35, 0, 405, mj_u) else none) else
      (bif Nat.beq pc 23 then some (.aload_n 0, 1, 0, 0, 0, mj_u) else none))) else
    (bif Nat.blt pc 27 then (bif Nat.beq pc 24 then some (.getfield 21, 3, 8, 1, 297, .null) else none) else
     (bif Nat.blt pc 28 then (bif Nat.beq pc 27 then some (.aload_n 0, 1, 0, 0, 0, mj_u) else none) else
      (bif Nat.beq pc 28 then some (.getfield 10, 3, 8, 0, 296, .null) else none)))) else
   (bif Nat.blt pc 36 then (bif Nat.blt pc 32 then (bif Nat.beq pc 31 then some (.iload_n 1, 1, 1, 0, 0, mj_u) else none) else
     (bif Nat.blt pc 33 then (bif Nat.beq pc 32 then some (.iload_n 2, 1, 2, 0, 0, mj_u) else none) else
      (bif Nat.beq pc 33 then some (.invokevirtual 75, 3, 12, 0, 668, mj_u) else none))) else
    (bif Nat.blt pc 37 then (bif Nat.beq pc 36 then some (.iload_n 3, 1, 3, 0, 0, mj_u) else none) else
     (bif Nat.blt pc 40 then (bif Nat.beq pc 37 then some (.invokevirtual 125, 3, 71, 0, 557, mj_u) else none) else
      (bif Nat.beq pc 40 then some (.ireturn, 1, 0, 0, 0, mj_u) else none)))))
def m_W_water : mj_M := (90, prog_1_method_13_code, 4, (Option.some Jvm.ClassFile.FieldType.int), 8, 3, 751, 749, 750, 45, 41, k_W_water)
/-- WatershedMap.level(II)I -/
def k_W_level : Nat → Option mj_I := fun pc =>
  bif Nat.blt pc 14 then (bif Nat.blt pc 6 then (bif Nat.blt pc 2 then (bif Nat.blt pc 1 then (bif Nat.beq pc 0 then some (.aload_n 0, 1, 0, 0, 0, mj_u) else none) else
     (bif Nat.beq pc 1 then some (.iload_n 1, 1, 1, 0, 0, mj_u) else none)) else
    (bif Nat.blt pc 3 then (bif Nat.beq pc 2 then some (.iload_n 2, 1, 2, 0, 0, mj_u) else none) else
     (bif Nat.beq pc 3 then some (.invokevirtual 72, 3, 75, 0, 647, mj_u) else none))) else
   (bif Nat.blt pc 10 then (bif Nat.blt pc 7 then (bif Nat.beq pc 6 then some (.aload_n 0, 1, 0, 0, 0, mj_u) else none) else
     (bif Nat.beq pc 7 then some (.getfield 28, 3, 8, 2, 298, .null) else none)) else
    (bif Nat.blt pc 13 then (bif Nat.beq pc 10 then some (.invokevirtual 108, 3, 19, 0, 341, mj_u) else none) else
     (bif Nat.beq pc 13 then some (.aload_n 0, 1, 0, 0, 0, mj_u) else none)))) else
  (bif Nat.blt pc 24 then (bif Nat.blt pc 20 then (bif Nat.blt pc 17 then (bif Nat.beq pc 14 then some (.getfield 28, 3, 8, 2, 298, .null) else none) else
     (bif Nat.beq pc 17 then some (.getfield 111, 3, 3, 1, 201, .null) else none)) else
    (bif Nat.blt pc 21 then (bif Nat.beq pc 20 then some (.aload_n 0, 1, 0, 0, 0, mj_u) else none) else
     (bif Nat.beq pc 21 then some (.getfield 10, 3, 8, 0, 296, .null) else none))) else
   (bif Nat.blt pc 26 then (bif Nat.blt pc 25 then (bif Nat.beq pc 24 then some (.iload_n 1, 1, 1, 0, 0, mj_u) else none) else
     (bif Nat.beq pc 25 then some (.iload_n 2, 1, 2, 0, 0, mj_u) else none)) else
    (bif Nat.blt pc 29 then (bif Nat.beq pc 26 then some (.invokevirtual 75, 3, 12, 0, 668, mj_u) else none) else
     (bif Nat.blt pc 30 then (bif Nat.beq pc 29 then some (.iaload, 1, 0, 0, 0, mj_u) else none) else
      (bif Nat.beq pc 30 then some (.ireturn, 1, 0, 0, 0, mj_u) else none)))))
def m_W_level : mj_M := (91, prog_1_method_18_code, 3, (Option.some Jvm.ClassFile.FieldType.int), 8, 2, 758, 756, 757, 45, 31, k_W_level)
/-- WatershedMap.lake(III)I -/
def k_W_lake : Nat → Option mj_I := fun pc =>
  bif Nat.blt pc 24 then (bif Nat.blt pc 9 then (bif Nat.blt pc 3 then (bif Nat.blt pc 1 then (bif Nat.beq pc 0 then some (.aload_n 0, 1, 0, 0, 0, mj_u) else none) else
     (bif Nat.blt pc 2 then (bif Nat.beq pc 1 then some (.iload_n 1, 1, 1, 0, 0, mj_u) else none) else
      (bif Nat.beq pc 2 then some (.iload_n 2, 1, 2, 0, 0, mj_u) else none))) else
    (bif Nat.blt pc 7 then (bif Nat.blt pc 6 then (bif Nat.beq pc 3 then some (.invokevirtual 72, 3, 75, 0, 647, mj_u) else none) else
      (bif Nat.beq pc 6 then some (.iload_n 3, 1, 3, 0, 0, mj_u) else none)) else
     (bif Nat.blt pc 8 then (bif Nat.beq pc 7 then some (.iconst 0, 1, 0, 0, 0, .int 0) else none) else
      (bif Nat.beq pc 8 then some (.iconst 1, 1, 0, 0, 0, .int 1) else none)))) else
   (bif Nat.blt pc 16 then (bif Nat.blt pc 12 then (bif Nat.beq pc 9 then some (.invokestatic 65, 3, 73, 0, 569, mj_u) else none) else
     (bif Nat.blt pc 13 then (bif Nat.beq pc 12 then some (.aload_n 0, 1, 0, 0, 0, mj_u) else none) else
      (bif Nat.beq pc 13 then some (.getfield 28, 3, 8, 2, 298, .null) else none))) else
    (bif Nat.blt pc 20 then (bif Nat.blt pc 19 then (bif Nat.beq pc 16 then some (.invokevirtual 108, 3, 19, 0, 341, mj_u) else none) else
      (bif Nat.beq pc 19 then some (.aload_n 0, 1, 0, 0, 0, mj_u) else none)) else
     (bif Nat.blt pc 23 then (bif Nat.beq pc 20 then some (.getfield 10, 3, 8, 0, 296, .null) else none) else
      (bif Nat.beq pc 23 then some (.iload_n 1, 1, 1, 0, 0, mj_u) else none))))) else
  (bif Nat.blt pc 38 then (bif Nat.blt pc 30 then (bif Nat.blt pc 25 then (bif Nat.beq pc 24 then some (.iload_n 2, 1, 2, 0, 0, mj_u) else none) else
     (bif Nat.blt pc 28 then (bif Nat.beq pc 25 then some (.invokevirtual 75, 3, 12, 0, 668, mj_u) else none) else
      (bif Nat.beq pc 28 then some (.istore 4, 2, 4, 0, 0, mj_u) else none))) else
    (bif Nat.blt pc 34 then (bif Nat.blt pc 31 then (bif Nat.beq pc 30 then some (.iload_n 3, 1, 3, 0, 0, mj_u) else none) else
      (bif Nat.beq pc 31 then some (.ifCond .ne 15, 3, 46, 0, 0, mj_u) else none)) else
     (bif Nat.blt pc 35 then (bif Nat.beq pc 34 then some (.aload_n 0, 1, 0, 0, 0, mj_u) else none) else
      (bif Nat.beq pc 35 then some (.getfield 28, 3, 8, 2, 298, .null) else none)))) else
   (bif Nat.blt pc 47 then (bif Nat.blt pc 43 then (bif Nat.blt pc 40 then (bif Nat.beq pc 38 then some (.iload 4, 2, 4, 0, 0, mj_u) else none) else
      (bif Nat.beq pc 40 then some (.invokevirtual 142, 3, 93, 0, 766, mj_u) else none)) else
     (bif Nat.blt pc 46 then (bif Nat.beq pc 43 then some (.goto 12, 3, 55, 0, 0, mj_u) else none) else
      (bif Nat.beq pc 46 then some (.aload_n 0, 1, 0, 0, 0, mj_u) else none))) else
    (bif Nat.blt pc 52 then (bif Nat.blt pc 50 then (bif Nat.beq pc 47 then some (.getfield 28, 3, 8, 2, 298, .null) else none) else
      (bif Nat.beq pc 50 then some (.iload 4, 2, 4, 0, 0, mj_u) else none)) else
     (bif Nat.blt pc 55 then (bif Nat.beq pc 52 then some (.invokevirtual 145, 3, 95, 0, 775, mj_u) else none) else
      (bif Nat.beq pc 55 then some (.ireturn, 1, 0, 0, 0, mj_u) else none)))))
def m_W_lake : mj_M := (92, prog_1_method_20_code, 5, (Option.some Jvm.ClassFile.FieldType.int), 8, 3, 765, 763, 764, 45, 56, k_W_lake)
/-- WatershedMap$Hollows.sizeOfLake(I)I -/
def k_Hollows_sizeOfLake : Nat → Option mj_I := fun pc =>
  bif Nat.blt pc 18 then (bif Nat.blt pc 6 then (bif Nat.blt pc 3 then (bif Nat.blt pc 1 then (bif Nat.beq pc 0 then some (.iconst 0, 1, 0, 0, 0, .int 0) else none) else
     (bif Nat.blt pc 2 then (bif Nat.beq pc 1 then some (.istore_n 2, 1, 2, 0, 0, mj_u) else none) else
      (bif Nat.beq pc 2 then some (.iconst 0, 1, 0, 0, 0, .int 0) else none))) else
    (bif Nat.blt pc 4 then (bif Nat.beq pc 3 then some (.istore_n 3, 1, 3, 0, 0, mj_u) else none) else
     (bif Nat.blt pc 5 then (bif Nat.beq pc 4 then some (.iload_n 3, 1, 3, 0, 0, mj_u) else none) else
      (bif Nat.beq pc 5 then some (.aload_n 0, 1, 0, 0, 0, mj_u) else none)))) else
   (bif Nat.blt pc 15 then (bif Nat.blt pc 9 then (bif Nat.beq pc 6 then some (.getfield 29, 3, 3, 0, 199, .null) else none) else
     (bif Nat.blt pc 12 then (bif Nat.beq pc 9 then some (.getfield 43, 3, 4, 5, 104, .int 0) else none) else
      (bif Nat.beq pc 12 then some (.if_icmp .ge 26, 3, 38, 0, 0, mj_u) else none))) else
    (bif Nat.blt pc 16 then (bif Nat.beq pc 15 then some (.iload_n 2, 1, 2, 0, 0, mj_u) else none) else
     (bif Nat.blt pc 17 then (bif Nat.beq pc 16 then some (.aload_n 0, 1, 0, 0, 0, mj_u) else none) else
      (bif Nat.beq pc 17 then some (.iload_n 1, 1, 1, 0, 0, mj_u) else none))))) else
  (bif Nat.blt pc 30 then (bif Nat.blt pc 25 then (bif Nat.blt pc 19 then (bif Nat.beq pc 18 then some (.iload_n 3, 1, 3, 0, 0, mj_u) else none) else
     (bif Nat.blt pc 22 then (bif Nat.beq pc 19 then some (.invokevirtual 96, 3, 94, 0, 770, mj_u) else none) else
      (bif Nat.beq pc 22 then some (.ifCond .eq 7, 3, 29, 0, 0, mj_u) else none))) else
    (bif Nat.blt pc 26 then (bif Nat.beq pc 25 then some (.iconst 1, 1, 0, 0, 0, .int 1) else none) else
     (bif Nat.blt pc 29 then (bif Nat.beq pc 26 then some (.goto 4, 3, 30, 0, 0, mj_u) else none) else
      (bif Nat.beq pc 29 then some (.iconst 0, 1, 0, 0, 0, .int 0) else none)))) else
   (bif Nat.blt pc 35 then (bif Nat.blt pc 31 then (bif Nat.beq pc 30 then some (.iadd, 1, 0, 0, 0, mj_u) else none) else
     (bif Nat.blt pc 32 then (bif Nat.beq pc 31 then some (.istore_n 2, 1, 2, 0, 0, mj_u) else none) else
      (bif Nat.beq pc 32 then some (.iinc 3 1, 3, 3, 0, 0, .int 1) else none))) else
    (bif Nat.blt pc 38 then (bif Nat.beq pc 35 then some (.goto (-31), 3, 4, 0, 0, mj_u) else none) else
     (bif Nat.blt pc 39 then (bif Nat.beq pc 38 then some (.iload_n 2, 1, 2, 0, 0, mj_u) else none) else
      (bif Nat.beq pc 39 then some (.ireturn, 1, 0, 0, 0, mj_u) else none)))))
def m_Hollows_sizeOfLake : mj_M := (93, prog_5_method_9_code, 4, (Option.some Jvm.ClassFile.FieldType.int), 3, 1, 769, 767, 768, 48, 40, k_Hollows_sizeOfLake)
/-- WatershedMap$Hollows.inOneLake(II)Z -/
def k_Hollows_inOneLake : Nat → Option mj_I := fun pc =>
  bif Nat.blt pc 20 then (bif Nat.blt pc 9 then (bif Nat.blt pc 2 then (bif Nat.blt pc 1 then (bif Nat.beq pc 0 then some (.aload_n 0, 1, 0, 0, 0, mj_u) else none) else
     (bif Nat.beq pc 1 then some (.iload_n 1, 1, 1, 0, 0, mj_u) else none)) else
    (bif Nat.blt pc 5 then (bif Nat.beq pc 2 then some (.invokevirtual 48, 3, 28, 0, 377, mj_u) else none) else
     (bif Nat.blt pc 8 then (bif Nat.beq pc 5 then some (.ifCond .eq 34, 3, 39, 0, 0, mj_u) else none) else
      (bif Nat.beq pc 8 then some (.aload_n 0, 1, 0, 0, 0, mj_u) else none)))) else
   (bif Nat.blt pc 13 then (bif Nat.blt pc 10 then (bif Nat.beq pc 9 then some (.iload_n 2, 1, 2, 0, 0, mj_u) else none) else
     (bif Nat.beq pc 10 then some (.invokevirtual 48, 3, 28, 0, 377, mj_u) else none)) else
    (bif Nat.blt pc 16 then (bif Nat.beq pc 13 then some (.ifCond .eq 26, 3, 39, 0, 0, mj_u) else none) else
     (bif Nat.blt pc 17 then (bif Nat.beq pc 16 then some (.aload_n 0, 1, 0, 0, 0, mj_u) else none) else
      (bif Nat.beq pc 17 then some (.getfield 25, 3, 3, 3, 203, .null) else none))))) else
  (bif Nat.blt pc 29 then (bif Nat.blt pc 24 then (bif Nat.blt pc 21 then (bif Nat.beq pc 20 then some (.iload_n 1, 1, 1, 0, 0, mj_u) else none) else
     (bif Nat.beq pc 21 then some (.invokevirtual 93, 3, 32, 0, 774, mj_u) else none)) else
    (bif Nat.blt pc 25 then (bif Nat.beq pc 24 then some (.aload_n 0, 1, 0, 0, 0, mj_u) else none) else
     (bif Nat.blt pc 28 then (bif Nat.beq pc 25 then some (.getfield 25, 3, 3, 3, 203, .null) else none) else
      (bif Nat.beq pc 28 then some (.iload_n 2, 1, 2, 0, 0, mj_u) else none)))) else
   (bif Nat.blt pc 36 then (bif Nat.blt pc 32 then (bif Nat.beq pc 29 then some (.invokevirtual 93, 3, 32, 0, 774, mj_u) else none) else
     (bif Nat.blt pc 35 then (bif Nat.beq pc 32 then some (.if_icmp .ne 7, 3, 39, 0, 0, mj_u) else none) else
      (bif Nat.beq pc 35 then some (.iconst 1, 1, 0, 0, 0, .int 1) else none))) else
    (bif Nat.blt pc 39 then (bif Nat.beq pc 36 then some (.goto 4, 3, 40, 0, 0, mj_u) else none) else
     (bif Nat.blt pc 40 then (bif Nat.beq pc 39 then some (.iconst 0, 1, 0, 0, 0, .int 0) else none) else
      (bif Nat.beq pc 40 then some (.ireturn, 1, 0, 0, 0, mj_u) else none)))))
def m_Hollows_inOneLake : mj_M := (94, prog_5_method_8_code, 3, (Option.some Jvm.ClassFile.FieldType.boolean), 3, 2, 773, 772, 22, 48, 41, k_Hollows_inOneLake)
/-- WatershedMap$Hollows.contentOfLake(I)I -/
def k_Hollows_contentOfLake : Nat → Option mj_I := fun pc =>
  bif Nat.blt pc 19 then (bif Nat.blt pc 6 then (bif Nat.blt pc 3 then (bif Nat.blt pc 1 then (bif Nat.beq pc 0 then some (.iconst 0, 1, 0, 0, 0, .int 0) else none) else
     (bif Nat.blt pc 2 then (bif Nat.beq pc 1 then some (.istore_n 2, 1, 2, 0, 0, mj_u) else none) else
      (bif Nat.beq pc 2 then some (.iconst 0, 1, 0, 0, 0, .int 0) else none))) else
    (bif Nat.blt pc 4 then (bif Nat.beq pc 3 then some (.istore_n 3, 1, 3, 0, 0, mj_u) else none) else
     (bif Nat.blt pc 5 then (bif Nat.beq pc 4 then some (.iload_n 3, 1, 3, 0, 0, mj_u) else none) else
      (bif Nat.beq pc 5 then some (.aload_n 0, 1, 0, 0, 0, mj_u) else none)))) else
   (bif Nat.blt pc 15 then (bif Nat.blt pc 9 then (bif Nat.beq pc 6 then some (.getfield 29, 3, 3, 0, 199, .null) else none) else
     (bif Nat.blt pc 12 then (bif Nat.beq pc 9 then some (.getfield 43, 3, 4, 5, 104, .int 0) else none) else
      (bif Nat.beq pc 12 then some (.if_icmp .ge 30, 3, 42, 0, 0, mj_u) else none))) else
    (bif Nat.blt pc 17 then (bif Nat.blt pc 16 then (bif Nat.beq pc 15 then some (.iload_n 2, 1, 2, 0, 0, mj_u) else none) else
      (bif Nat.beq pc 16 then some (.aload_n 0, 1, 0, 0, 0, mj_u) else none)) else
     (bif Nat.blt pc 18 then (bif Nat.beq pc 17 then some (.iload_n 1, 1, 1, 0, 0, mj_u) else none) else
      (bif Nat.beq pc 18 then some (.iload_n 3, 1, 3, 0, 0, mj_u) else none))))) else
  (bif Nat.blt pc 33 then (bif Nat.blt pc 26 then (bif Nat.blt pc 22 then (bif Nat.beq pc 19 then some (.invokevirtual 96, 3, 94, 0, 770, mj_u) else none) else
     (bif Nat.blt pc 25 then (bif Nat.beq pc 22 then some (.ifCond .eq 11, 3, 33, 0, 0, mj_u) else none) else
      (bif Nat.beq pc 25 then some (.aload_n 0, 1, 0, 0, 0, mj_u) else none))) else
    (bif Nat.blt pc 27 then (bif Nat.beq pc 26 then some (.iload_n 3, 1, 3, 0, 0, mj_u) else none) else
     (bif Nat.blt pc 30 then (bif Nat.beq pc 27 then some (.invokevirtual 89, 3, 29, 0, 381, mj_u) else none) else
      (bif Nat.beq pc 30 then some (.goto 4, 3, 34, 0, 0, mj_u) else none)))) else
   (bif Nat.blt pc 36 then (bif Nat.blt pc 34 then (bif Nat.beq pc 33 then some (.iconst 0, 1, 0, 0, 0, .int 0) else none) else
     (bif Nat.blt pc 35 then (bif Nat.beq pc 34 then some (.iadd, 1, 0, 0, 0, mj_u) else none) else
      (bif Nat.beq pc 35 then some (.istore_n 2, 1, 2, 0, 0, mj_u) else none))) else
    (bif Nat.blt pc 42 then (bif Nat.blt pc 39 then (bif Nat.beq pc 36 then some (.iinc 3 1, 3, 3, 0, 0, .int 1) else none) else
      (bif Nat.beq pc 39 then some (.goto (-35), 3, 4, 0, 0, mj_u) else none)) else
     (bif Nat.blt pc 43 then (bif Nat.beq pc 42 then some (.iload_n 2, 1, 2, 0, 0, mj_u) else none) else
      (bif Nat.beq pc 43 then some (.ireturn, 1, 0, 0, 0, mj_u) else none)))))
def m_Hollows_contentOfLake : mj_M := (95, prog_5_method_10_code, 4, (Option.some Jvm.ClassFile.FieldType.int), 3, 1, 778, 776, 777, 48, 44, k_Hollows_contentOfLake)
/-- WatershedMap.contour(II)I -/
def k_W_contour : Nat → Option mj_I := fun pc =>
  bif Nat.blt pc 14 then (bif Nat.blt pc 8 then (bif Nat.blt pc 2 then (bif Nat.blt pc 1 then (bif Nat.beq pc 0 then some (.iload_n 1, 1, 1, 0, 0, mj_u) else none) else
     (bif Nat.beq pc 1 then some (.iconst 0, 1, 0, 0, 0, .int 0) else none)) else
    (bif Nat.blt pc 5 then (bif Nat.beq pc 2 then some (.sipush 999, 3, 0, 0, 0, .int 999) else none) else
     (bif Nat.beq pc 5 then some (.invokestatic 65, 3, 73, 0, 569, mj_u) else none))) else
   (bif Nat.blt pc 10 then (bif Nat.blt pc 9 then (bif Nat.beq pc 8 then some (.iload_n 2, 1, 2, 0, 0, mj_u) else none) else
     (bif Nat.beq pc 9 then some (.iconst 0, 1, 0, 0, 0, .int 0) else none)) else
    (bif Nat.blt pc 11 then (bif Nat.beq pc 10 then some (.iconst 2, 1, 0, 0, 0, .int 2) else none) else
     (bif Nat.beq pc 11 then some (.invokestatic 65, 3, 73, 0, 569, mj_u) else none)))) else
  (bif Nat.blt pc 22 then (bif Nat.blt pc 18 then (bif Nat.blt pc 15 then (bif Nat.beq pc 14 then some (.aload_n 0, 1, 0, 0, 0, mj_u) else none) else
     (bif Nat.beq pc 15 then some (.getfield 35, 3, 8, 3, 299, .null) else none)) else
    (bif Nat.blt pc 19 then (bif Nat.beq pc 18 then some (.iload_n 1, 1, 1, 0, 0, mj_u) else none) else
     (bif Nat.beq pc 19 then some (.invokevirtual 151, 3, 62, 0, 519, mj_u) else none))) else
   (bif Nat.blt pc 26 then (bif Nat.blt pc 23 then (bif Nat.beq pc 22 then some (.aload_n 0, 1, 0, 0, 0, mj_u) else none) else
     (bif Nat.beq pc 23 then some (.getfield 35, 3, 8, 3, 299, .null) else none)) else
    (bif Nat.blt pc 27 then (bif Nat.beq pc 26 then some (.iload_n 2, 1, 2, 0, 0, mj_u) else none) else
     (bif Nat.blt pc 30 then (bif Nat.beq pc 27 then some (.invokevirtual 154, 3, 69, 0, 549, mj_u) else none) else
      (bif Nat.beq pc 30 then some (.ireturn, 1, 0, 0, 0, mj_u) else none)))))
def m_W_contour : mj_M := (96, prog_1_method_22_code, 3, (Option.some Jvm.ClassFile.FieldType.int), 8, 2, 785, 783, 784, 45, 31, k_W_contour)
/-- WatershedMap.sees(IIIII)Z -/
def k_W_sees : Nat → Option mj_I := fun pc =>
  bif Nat.blt pc 16 then (bif Nat.blt pc 7 then (bif Nat.blt pc 2 then (bif Nat.blt pc 1 then (bif Nat.beq pc 0 then some (.aload_n 0, 1, 0, 0, 0, mj_u) else none) else
     (bif Nat.beq pc 1 then some (.iload_n 1, 1, 1, 0, 0, mj_u) else none)) else
    (bif Nat.blt pc 3 then (bif Nat.beq pc 2 then some (.iload_n 2, 1, 2, 0, 0, mj_u) else none) else
     (bif Nat.blt pc 6 then (bif Nat.beq pc 3 then some (.invokevirtual 72, 3, 75, 0, 647, mj_u) else none) else
      (bif Nat.beq pc 6 then some (.aload_n 0, 1, 0, 0, 0, mj_u) else none)))) else
   (bif Nat.blt pc 11 then (bif Nat.blt pc 9 then (bif Nat.beq pc 7 then some (.iload 4, 2, 4, 0, 0, mj_u) else none) else
     (bif Nat.beq pc 9 then some (.iload 5, 2, 5, 0, 0, mj_u) else none)) else
    (bif Nat.blt pc 14 then (bif Nat.beq pc 11 then some (.invokevirtual 72, 3, 75, 0, 647, mj_u) else none) else
     (bif Nat.blt pc 15 then (bif Nat.beq pc 14 then some (.iload_n 3, 1, 3, 0, 0, mj_u) else none) else
      (bif Nat.beq pc 15 then some (.iconst 0, 1, 0, 0, 0, .int 0) else none))))) else
  (bif Nat.blt pc 27 then (bif Nat.blt pc 22 then (bif Nat.blt pc 19 then (bif Nat.beq pc 16 then some (.sipush 500, 3, 0, 0, 0, .int 500) else none) else
     (bif Nat.beq pc 19 then some (.invokestatic 65, 3, 73, 0, 569, mj_u) else none)) else
    (bif Nat.blt pc 23 then (bif Nat.beq pc 22 then some (.aload_n 0, 1, 0, 0, 0, mj_u) else none) else
     (bif Nat.blt pc 26 then (bif Nat.beq pc 23 then some (.getfield 42, 3, 8, 4, 300, .null) else none) else
      (bif Nat.beq pc 26 then some (.iload_n 1, 1, 1, 0, 0, mj_u) else none)))) else
   (bif Nat.blt pc 31 then (bif Nat.blt pc 28 then (bif Nat.beq pc 27 then some (.iload_n 2, 1, 2, 0, 0, mj_u) else none) else
     (bif Nat.blt pc 29 then (bif Nat.beq pc 28 then some (.iload_n 3, 1, 3, 0, 0, mj_u) else none) else
      (bif Nat.beq pc 29 then some (.iload 4, 2, 4, 0, 0, mj_u) else none))) else
    (bif Nat.blt pc 33 then (bif Nat.beq pc 31 then some (.iload 5, 2, 5, 0, 0, mj_u) else none) else
     (bif Nat.blt pc 36 then (bif Nat.beq pc 33 then some (.invokevirtual 155, 3, 98, 0, 793, mj_u) else none) else
      (bif Nat.beq pc 36 then some (.ireturn, 1, 0, 0, 0, mj_u) else none)))))
def m_W_sees : mj_M := (97, prog_1_method_23_code, 6, (Option.some Jvm.ClassFile.FieldType.boolean), 8, 5, 792, 790, 791, 45, 37, k_W_sees)
/-- WatershedMap$Sight.reaches(IIIII)Z -/
def k_Sight_reaches : Nat → Option mj_I := fun pc =>
  bif Nat.blt pc 67 then (bif Nat.blt pc 30 then (bif Nat.blt pc 15 then (bif Nat.blt pc 6 then (bif Nat.blt pc 2 then (bif Nat.blt pc 1 then (bif Nat.beq pc 0 then some (.iload_n 1, 1, 1, 0, 0, mj_u) else none) else
       (bif Nat.beq pc 1 then some (.iload_n 2, 1, 2, 0, 0, mj_u) else none)) else
      (bif Nat.blt pc 4 then (bif Nat.beq pc 2 then some (.iload 4, 2, 4, 0, 0, mj_u) else none) else
       (bif Nat.beq pc 4 then some (.iload 5, 2, 5, 0, 0, mj_u) else none))) else
     (bif Nat.blt pc 11 then (bif Nat.blt pc 9 then (bif Nat.beq pc 6 then some (.invokestatic 13, 3, 82, 0, 797, mj_u) else none) else
       (bif Nat.beq pc 9 then some (.istore 6, 2, 6, 0, 0, mj_u) else none)) else
      (bif Nat.blt pc 12 then (bif Nat.beq pc 11 then some (.aload_n 0, 1, 0, 0, 0, mj_u) else none) else
       (bif Nat.beq pc 12 then some (.getfield 7, 3, 5, 0, 250, .null) else none)))) else
    (bif Nat.blt pc 23 then (bif Nat.blt pc 19 then (bif Nat.blt pc 18 then (bif Nat.beq pc 15 then some (.getfield 19, 3, 4, 0, 88, .null) else none) else
       (bif Nat.beq pc 18 then some (.aload_n 0, 1, 0, 0, 0, mj_u) else none)) else
      (bif Nat.blt pc 22 then (bif Nat.beq pc 19 then some (.getfield 7, 3, 5, 0, 250, .null) else none) else
       (bif Nat.beq pc 22 then some (.iload_n 1, 1, 1, 0, 0, mj_u) else none))) else
     (bif Nat.blt pc 27 then (bif Nat.blt pc 24 then (bif Nat.beq pc 23 then some (.iload_n 2, 1, 2, 0, 0, mj_u) else none) else
       (bif Nat.beq pc 24 then some (.invokevirtual 23, 3, 12, 0, 798, mj_u) else none)) else
      (bif Nat.blt pc 28 then (bif Nat.beq pc 27 then some (.iaload, 1, 0, 0, 0, mj_u) else none) else
       (bif Nat.blt pc 29 then (bif Nat.beq pc 28 then some (.iload_n 3, 1, 3, 0, 0, mj_u) else none) else
        (bif Nat.beq pc 29 then some (.iadd, 1, 0, 0, 0, mj_u) else none)))))) else
   (bif Nat.blt pc 50 then (bif Nat.blt pc 39 then (bif Nat.blt pc 33 then (bif Nat.blt pc 32 then (bif Nat.beq pc 30 then some (.istore 7, 2, 7, 0, 0, mj_u) else none) else
       (bif Nat.beq pc 32 then some (.aload_n 0, 1, 0, 0, 0, mj_u) else none)) else
      (bif Nat.blt pc 36 then (bif Nat.beq pc 33 then some (.getfield 7, 3, 5, 0, 250, .null) else none) else
       (bif Nat.beq pc 36 then some (.getfield 19, 3, 4, 0, 88, .null) else none))) else
     (bif Nat.blt pc 43 then (bif Nat.blt pc 40 then (bif Nat.beq pc 39 then some (.aload_n 0, 1, 0, 0, 0, mj_u) else none) else
       (bif Nat.beq pc 40 then some (.getfield 7, 3, 5, 0, 250, .null) else none)) else
      (bif Nat.blt pc 45 then (bif Nat.beq pc 43 then some (.iload 4, 2, 4, 0, 0, mj_u) else none) else
       (bif Nat.blt pc 47 then (bif Nat.beq pc 45 then some (.iload 5, 2, 5, 0, 0, mj_u) else none) else
        (bif Nat.beq pc 47 then some (.invokevirtual 23, 3, 12, 0, 798, mj_u) else none))))) else
    (bif Nat.blt pc 56 then (bif Nat.blt pc 53 then (bif Nat.blt pc 51 then (bif Nat.beq pc 50 then some (.iaload, 1, 0, 0, 0, mj_u) else none) else
       (bif Nat.beq pc 51 then some (.istore 8, 2, 8, 0, 0, mj_u) else none)) else
      (bif Nat.blt pc 54 then (bif Nat.beq pc 53 then some (.iconst 1, 1, 0, 0, 0, .int 1) else none) else
       (bif Nat.beq pc 54 then some (.istore 9, 2, 9, 0, 0, mj_u) else none))) else
     (bif Nat.blt pc 60 then (bif Nat.blt pc 58 then (bif Nat.beq pc 56 then some (.iload 9, 2, 9, 0, 0, mj_u) else none) else
       (bif Nat.beq pc 58 then some (.iload 6, 2, 6, 0, 0, mj_u) else none)) else
      (bif Nat.blt pc 63 then (bif Nat.beq pc 60 then some (.if_icmp .ge 70, 3, 130, 0, 0, mj_u) else none) else
       (bif Nat.blt pc 64 then (bif Nat.beq pc 63 then some (.aload_n 0, 1, 0, 0, 0, mj_u) else none) else
        (bif Nat.beq pc 64 then some (.getfield 7, 3, 5, 0, 250, .null) else none))))))) else
  (bif Nat.blt pc 102 then (bif Nat.blt pc 82 then (bif Nat.blt pc 74 then (bif Nat.blt pc 70 then (bif Nat.blt pc 68 then (bif Nat.beq pc 67 then some (.iload_n 1, 1, 1, 0, 0, mj_u) else none) else
       (bif Nat.beq pc 68 then some (.iload 4, 2, 4, 0, 0, mj_u) else none)) else
      (bif Nat.blt pc 72 then (bif Nat.beq pc 70 then some (.iload 9, 2, 9, 0, 0, mj_u) else none) else
       (bif Nat.beq pc 72 then some (.iload 6, 2, 6, 0, 0, mj_u) else none))) else
     (bif Nat.blt pc 78 then (bif Nat.blt pc 77 then (bif Nat.beq pc 74 then some (.invokestatic 27, 3, 83, 0, 799, mj_u) else none) else
       (bif Nat.beq pc 77 then some (.iload_n 2, 1, 2, 0, 0, mj_u) else none)) else
      (bif Nat.blt pc 80 then (bif Nat.beq pc 78 then some (.iload 5, 2, 5, 0, 0, mj_u) else none) else
       (bif Nat.beq pc 80 then some (.iload 9, 2, 9, 0, 0, mj_u) else none)))) else
    (bif Nat.blt pc 92 then (bif Nat.blt pc 87 then (bif Nat.blt pc 84 then (bif Nat.beq pc 82 then some (.iload 6, 2, 6, 0, 0, mj_u) else none) else
       (bif Nat.beq pc 84 then some (.invokestatic 27, 3, 83, 0, 799, mj_u) else none)) else
      (bif Nat.blt pc 90 then (bif Nat.beq pc 87 then some (.invokevirtual 23, 3, 12, 0, 798, mj_u) else none) else
       (bif Nat.beq pc 90 then some (.istore 10, 2, 10, 0, 0, mj_u) else none))) else
     (bif Nat.blt pc 96 then (bif Nat.blt pc 93 then (bif Nat.beq pc 92 then some (.aload_n 0, 1, 0, 0, 0, mj_u) else none) else
       (bif Nat.beq pc 93 then some (.getfield 7, 3, 5, 0, 250, .null) else none)) else
      (bif Nat.blt pc 99 then (bif Nat.beq pc 96 then some (.getfield 19, 3, 4, 0, 88, .null) else none) else
       (bif Nat.blt pc 101 then (bif Nat.beq pc 99 then some (.iload 10, 2, 10, 0, 0, mj_u) else none) else
        (bif Nat.beq pc 101 then some (.iaload, 1, 0, 0, 0, mj_u) else none)))))) else
   (bif Nat.blt pc 117 then (bif Nat.blt pc 109 then (bif Nat.blt pc 105 then (bif Nat.blt pc 104 then (bif Nat.beq pc 102 then some (.iload 6, 2, 6, 0, 0, mj_u) else none) else
       (bif Nat.beq pc 104 then some (.imul, 1, 0, 0, 0, mj_u) else none)) else
      (bif Nat.blt pc 107 then (bif Nat.beq pc 105 then some (.iload 7, 2, 7, 0, 0, mj_u) else none) else
       (bif Nat.beq pc 107 then some (.iload 6, 2, 6, 0, 0, mj_u) else none))) else
     (bif Nat.blt pc 112 then (bif Nat.blt pc 111 then (bif Nat.beq pc 109 then some (.iload 9, 2, 9, 0, 0, mj_u) else none) else
       (bif Nat.beq pc 111 then some (.isub, 1, 0, 0, 0, mj_u) else none)) else
      (bif Nat.blt pc 113 then (bif Nat.beq pc 112 then some (.imul, 1, 0, 0, 0, mj_u) else none) else
       (bif Nat.blt pc 115 then (bif Nat.beq pc 113 then some (.iload 8, 2, 8, 0, 0, mj_u) else none) else
        (bif Nat.beq pc 115 then some (.iload 9, 2, 9, 0, 0, mj_u) else none))))) else
    (bif Nat.blt pc 123 then (bif Nat.blt pc 119 then (bif Nat.blt pc 118 then (bif Nat.beq pc 117 then some (.imul, 1, 0, 0, 0, mj_u) else none) else
       (bif Nat.beq pc 118 then some (.iadd, 1, 0, 0, 0, mj_u) else none)) else
      (bif Nat.blt pc 122 then (bif Nat.beq pc 119 then some (.if_icmp .le 5, 3, 124, 0, 0, mj_u) else none) else
       (bif Nat.beq pc 122 then some (.iconst 0, 1, 0, 0, 0, .int 0) else none))) else
     (bif Nat.blt pc 127 then (bif Nat.blt pc 124 then (bif Nat.beq pc 123 then some (.ireturn, 1, 0, 0, 0, mj_u) else none) else
       (bif Nat.beq pc 124 then some (.iinc 9 1, 3, 9, 0, 0, .int 1) else none)) else
      (bif Nat.blt pc 130 then (bif Nat.beq pc 127 then some (.goto (-71), 3, 56, 0, 0, mj_u) else none) else
       (bif Nat.blt pc 131 then (bif Nat.beq pc 130 then some (.iconst 1, 1, 0, 0, 0, .int 1) else none) else
        (bif Nat.beq pc 131 then some (.ireturn, 1, 0, 0, 0, mj_u) else none)))))))
def m_Sight_reaches : mj_M := (98, prog_7_method_2_code, 11, (Option.some Jvm.ClassFile.FieldType.boolean), 5, 5, 796, 794, 795, 52, 132, k_Sight_reaches)
/-- WatershedMap.seen(III)I -/
def k_W_seen : Nat → Option mj_I := fun pc =>
  bif Nat.blt pc 11 then (bif Nat.blt pc 3 then (bif Nat.blt pc 1 then (bif Nat.beq pc 0 then some (.aload_n 0, 1, 0, 0, 0, mj_u) else none) else
    (bif Nat.blt pc 2 then (bif Nat.beq pc 1 then some (.iload_n 1, 1, 1, 0, 0, mj_u) else none) else
     (bif Nat.beq pc 2 then some (.iload_n 2, 1, 2, 0, 0, mj_u) else none))) else
   (bif Nat.blt pc 7 then (bif Nat.blt pc 6 then (bif Nat.beq pc 3 then some (.invokevirtual 72, 3, 75, 0, 647, mj_u) else none) else
     (bif Nat.beq pc 6 then some (.iload_n 3, 1, 3, 0, 0, mj_u) else none)) else
    (bif Nat.blt pc 8 then (bif Nat.beq pc 7 then some (.iconst 0, 1, 0, 0, 0, .int 0) else none) else
     (bif Nat.beq pc 8 then some (.sipush 500, 3, 0, 0, 0, .int 500) else none)))) else
  (bif Nat.blt pc 19 then (bif Nat.blt pc 15 then (bif Nat.blt pc 14 then (bif Nat.beq pc 11 then some (.invokestatic 65, 3, 73, 0, 569, mj_u) else none) else
     (bif Nat.beq pc 14 then some (.aload_n 0, 1, 0, 0, 0, mj_u) else none)) else
    (bif Nat.blt pc 18 then (bif Nat.beq pc 15 then some (.getfield 42, 3, 8, 4, 300, .null) else none) else
     (bif Nat.beq pc 18 then some (.iload_n 1, 1, 1, 0, 0, mj_u) else none))) else
   (bif Nat.blt pc 21 then (bif Nat.blt pc 20 then (bif Nat.beq pc 19 then some (.iload_n 2, 1, 2, 0, 0, mj_u) else none) else
     (bif Nat.beq pc 20 then some (.iload_n 3, 1, 3, 0, 0, mj_u) else none)) else
    (bif Nat.blt pc 24 then (bif Nat.beq pc 21 then some (.invokevirtual 159, 3, 100, 0, 807, mj_u) else none) else
     (bif Nat.beq pc 24 then some (.ireturn, 1, 0, 0, 0, mj_u) else none))))
def m_W_seen : mj_M := (99, prog_1_method_24_code, 4, (Option.some Jvm.ClassFile.FieldType.int), 8, 3, 806, 804, 805, 45, 25, k_W_seen)
/-- WatershedMap$Sight.countFrom(III)I -/
def k_Sight_countFrom : Nat → Option mj_I := fun pc =>
  bif Nat.blt pc 36 then (bif Nat.blt pc 18 then (bif Nat.blt pc 6 then (bif Nat.blt pc 3 then (bif Nat.blt pc 1 then (bif Nat.beq pc 0 then some (.iconst 0, 1, 0, 0, 0, .int 0) else none) else
      (bif Nat.beq pc 1 then some (.istore 4, 2, 4, 0, 0, mj_u) else none)) else
     (bif Nat.blt pc 4 then (bif Nat.beq pc 3 then some (.iconst 0, 1, 0, 0, 0, .int 0) else none) else
      (bif Nat.beq pc 4 then some (.istore 5, 2, 5, 0, 0, mj_u) else none))) else
    (bif Nat.blt pc 9 then (bif Nat.blt pc 8 then (bif Nat.beq pc 6 then some (.iload 5, 2, 5, 0, 0, mj_u) else none) else
      (bif Nat.beq pc 8 then some (.aload_n 0, 1, 0, 0, 0, mj_u) else none)) else
     (bif Nat.blt pc 12 then (bif Nat.beq pc 9 then some (.getfield 7, 3, 5, 0, 250, .null) else none) else
      (bif Nat.blt pc 15 then (bif Nat.beq pc 12 then some (.getfield 30, 3, 4, 4, 101, .int 0) else none) else
       (bif Nat.beq pc 15 then some (.if_icmp .ge 54, 3, 69, 0, 0, mj_u) else none))))) else
   (bif Nat.blt pc 24 then (bif Nat.blt pc 21 then (bif Nat.blt pc 19 then (bif Nat.beq pc 18 then some (.iconst 0, 1, 0, 0, 0, .int 0) else none) else
      (bif Nat.beq pc 19 then some (.istore 6, 2, 6, 0, 0, mj_u) else none)) else
     (bif Nat.blt pc 23 then (bif Nat.beq pc 21 then some (.iload 6, 2, 6, 0, 0, mj_u) else none) else
      (bif Nat.beq pc 23 then some (.aload_n 0, 1, 0, 0, 0, mj_u) else none))) else
    (bif Nat.blt pc 30 then (bif Nat.blt pc 27 then (bif Nat.beq pc 24 then some (.getfield 7, 3, 5, 0, 250, .null) else none) else
      (bif Nat.beq pc 27 then some (.getfield 34, 3, 4, 3, 97, .int 0) else none)) else
     (bif Nat.blt pc 33 then (bif Nat.beq pc 30 then some (.if_icmp .ge 33, 3, 63, 0, 0, mj_u) else none) else
      (bif Nat.blt pc 35 then (bif Nat.beq pc 33 then some (.iload 4, 2, 4, 0, 0, mj_u) else none) else
       (bif Nat.beq pc 35 then some (.aload_n 0, 1, 0, 0, 0, mj_u) else none)))))) else
  (bif Nat.blt pc 53 then (bif Nat.blt pc 41 then (bif Nat.blt pc 38 then (bif Nat.blt pc 37 then (bif Nat.beq pc 36 then some (.iload_n 1, 1, 1, 0, 0, mj_u) else none) else
      (bif Nat.beq pc 37 then some (.iload_n 2, 1, 2, 0, 0, mj_u) else none)) else
     (bif Nat.blt pc 39 then (bif Nat.beq pc 38 then some (.iload_n 3, 1, 3, 0, 0, mj_u) else none) else
      (bif Nat.beq pc 39 then some (.iload 6, 2, 6, 0, 0, mj_u) else none))) else
    (bif Nat.blt pc 46 then (bif Nat.blt pc 43 then (bif Nat.beq pc 41 then some (.iload 5, 2, 5, 0, 0, mj_u) else none) else
      (bif Nat.beq pc 43 then some (.invokevirtual 37, 3, 98, 0, 811, mj_u) else none)) else
     (bif Nat.blt pc 49 then (bif Nat.beq pc 46 then some (.ifCond .eq 7, 3, 53, 0, 0, mj_u) else none) else
      (bif Nat.blt pc 50 then (bif Nat.beq pc 49 then some (.iconst 1, 1, 0, 0, 0, .int 1) else none) else
       (bif Nat.beq pc 50 then some (.goto 4, 3, 54, 0, 0, mj_u) else none))))) else
   (bif Nat.blt pc 60 then (bif Nat.blt pc 55 then (bif Nat.blt pc 54 then (bif Nat.beq pc 53 then some (.iconst 0, 1, 0, 0, 0, .int 0) else none) else
      (bif Nat.beq pc 54 then some (.iadd, 1, 0, 0, 0, mj_u) else none)) else
     (bif Nat.blt pc 57 then (bif Nat.beq pc 55 then some (.istore 4, 2, 4, 0, 0, mj_u) else none) else
      (bif Nat.beq pc 57 then some (.iinc 6 1, 3, 6, 0, 0, .int 1) else none))) else
    (bif Nat.blt pc 66 then (bif Nat.blt pc 63 then (bif Nat.beq pc 60 then some (.goto (-39), 3, 21, 0, 0, mj_u) else none) else
      (bif Nat.beq pc 63 then some (.iinc 5 1, 3, 5, 0, 0, .int 1) else none)) else
     (bif Nat.blt pc 69 then (bif Nat.beq pc 66 then some (.goto (-60), 3, 6, 0, 0, mj_u) else none) else
      (bif Nat.blt pc 71 then (bif Nat.beq pc 69 then some (.iload 4, 2, 4, 0, 0, mj_u) else none) else
       (bif Nat.beq pc 71 then some (.ireturn, 1, 0, 0, 0, mj_u) else none))))))
def m_Sight_countFrom : mj_M := (100, prog_7_method_3_code, 7, (Option.some Jvm.ClassFile.FieldType.int), 5, 3, 810, 808, 809, 52, 72, k_Sight_countFrom)
/-- WatershedMap.takes(IIII)I -/
def k_W_takes : Nat → Option mj_I := fun pc =>
  bif Nat.blt pc 22 then (bif Nat.blt pc 8 then (bif Nat.blt pc 3 then (bif Nat.blt pc 1 then (bif Nat.beq pc 0 then some (.aload_n 0, 1, 0, 0, 0, mj_u) else none) else
     (bif Nat.blt pc 2 then (bif Nat.beq pc 1 then some (.iload_n 1, 1, 1, 0, 0, mj_u) else none) else
      (bif Nat.beq pc 2 then some (.iload_n 2, 1, 2, 0, 0, mj_u) else none))) else
    (bif Nat.blt pc 6 then (bif Nat.beq pc 3 then some (.invokevirtual 72, 3, 75, 0, 647, mj_u) else none) else
     (bif Nat.blt pc 7 then (bif Nat.beq pc 6 then some (.aload_n 0, 1, 0, 0, 0, mj_u) else none) else
      (bif Nat.beq pc 7 then some (.iload_n 3, 1, 3, 0, 0, mj_u) else none)))) else
   (bif Nat.blt pc 14 then (bif Nat.blt pc 10 then (bif Nat.beq pc 8 then some (.iload 4, 2, 4, 0, 0, mj_u) else none) else
     (bif Nat.blt pc 13 then (bif Nat.beq pc 10 then some (.invokevirtual 72, 3, 75, 0, 647, mj_u) else none) else
      (bif Nat.beq pc 13 then some (.aload_n 0, 1, 0, 0, 0, mj_u) else none))) else
    (bif Nat.blt pc 18 then (bif Nat.blt pc 17 then (bif Nat.beq pc 14 then some (.getfield 49, 3, 8, 5, 301, .null) else none) else
      (bif Nat.beq pc 17 then some (.aload_n 0, 1, 0, 0, 0, mj_u) else none)) else
     (bif Nat.blt pc 21 then (bif Nat.beq pc 18 then some (.getfield 10, 3, 8, 0, 296, .null) else none) else
      (bif Nat.beq pc 21 then some (.iload_n 1, 1, 1, 0, 0, mj_u) else none))))) else
  (bif Nat.blt pc 36 then (bif Nat.blt pc 29 then (bif Nat.blt pc 23 then (bif Nat.beq pc 22 then some (.iload_n 2, 1, 2, 0, 0, mj_u) else none) else
     (bif Nat.blt pc 26 then (bif Nat.beq pc 23 then some (.invokevirtual 75, 3, 12, 0, 668, mj_u) else none) else
      (bif Nat.beq pc 26 then some (.invokevirtual 163, 3, 102, 0, 819, mj_u) else none))) else
    (bif Nat.blt pc 30 then (bif Nat.beq pc 29 then some (.aload_n 0, 1, 0, 0, 0, mj_u) else none) else
     (bif Nat.blt pc 33 then (bif Nat.beq pc 30 then some (.getfield 49, 3, 8, 5, 301, .null) else none) else
      (bif Nat.beq pc 33 then some (.getfield 166, 3, 7, 1, 264, .null) else none)))) else
   (bif Nat.blt pc 41 then (bif Nat.blt pc 37 then (bif Nat.beq pc 36 then some (.aload_n 0, 1, 0, 0, 0, mj_u) else none) else
     (bif Nat.blt pc 40 then (bif Nat.beq pc 37 then some (.getfield 10, 3, 8, 0, 296, .null) else none) else
      (bif Nat.beq pc 40 then some (.iload_n 3, 1, 3, 0, 0, mj_u) else none))) else
    (bif Nat.blt pc 46 then (bif Nat.blt pc 43 then (bif Nat.beq pc 41 then some (.iload 4, 2, 4, 0, 0, mj_u) else none) else
      (bif Nat.beq pc 43 then some (.invokevirtual 75, 3, 12, 0, 668, mj_u) else none)) else
     (bif Nat.blt pc 47 then (bif Nat.beq pc 46 then some (.iaload, 1, 0, 0, 0, mj_u) else none) else
      (bif Nat.beq pc 47 then some (.ireturn, 1, 0, 0, 0, mj_u) else none)))))
def m_W_takes : mj_M := (101, prog_1_method_25_code, 5, (Option.some Jvm.ClassFile.FieldType.int), 8, 4, 818, 816, 817, 45, 48, k_W_takes)
/-- WatershedMap$Ways.spreadFrom(I)V -/
def k_Ways_spreadFrom : Nat → Option mj_I := fun pc =>
  bif Nat.blt pc 33 then (bif Nat.blt pc 20 then (bif Nat.blt pc 9 then (bif Nat.blt pc 4 then (bif Nat.blt pc 1 then (bif Nat.beq pc 0 then some (.aload_n 0, 1, 0, 0, 0, mj_u) else none) else
      (bif Nat.beq pc 1 then some (.getfield 9, 3, 7, 1, 263, .null) else none)) else
     (bif Nat.blt pc 6 then (bif Nat.beq pc 4 then some (.ldc 26, 2, 0, 0, 823, .int 1000000) else none) else
      (bif Nat.beq pc 6 then some (.invokestatic 27, 3, 10, 0, 824, mj_u) else none))) else
    (bif Nat.blt pc 13 then (bif Nat.blt pc 10 then (bif Nat.beq pc 9 then some (.aload_n 0, 1, 0, 0, 0, mj_u) else none) else
      (bif Nat.beq pc 10 then some (.getfield 18, 3, 7, 2, 265, .null) else none)) else
     (bif Nat.blt pc 16 then (bif Nat.beq pc 13 then some (.invokevirtual 33, 3, 21, 0, 825, mj_u) else none) else
      (bif Nat.blt pc 17 then (bif Nat.beq pc 16 then some (.aload_n 0, 1, 0, 0, 0, mj_u) else none) else
       (bif Nat.beq pc 17 then some (.getfield 9, 3, 7, 1, 263, .null) else none))))) else
   (bif Nat.blt pc 24 then (bif Nat.blt pc 22 then (bif Nat.blt pc 21 then (bif Nat.beq pc 20 then some (.iload_n 1, 1, 1, 0, 0, mj_u) else none) else
      (bif Nat.beq pc 21 then some (.iconst 0, 1, 0, 0, 0, .int 0) else none)) else
     (bif Nat.blt pc 23 then (bif Nat.beq pc 22 then some (.iastore, 1, 0, 0, 0, mj_u) else none) else
      (bif Nat.beq pc 23 then some (.aload_n 0, 1, 0, 0, 0, mj_u) else none))) else
    (bif Nat.blt pc 28 then (bif Nat.blt pc 27 then (bif Nat.beq pc 24 then some (.getfield 18, 3, 7, 2, 265, .null) else none) else
      (bif Nat.beq pc 27 then some (.iload_n 1, 1, 1, 0, 0, mj_u) else none)) else
     (bif Nat.blt pc 31 then (bif Nat.beq pc 28 then some (.invokevirtual 36, 3, 23, 0, 826, mj_u) else none) else
      (bif Nat.blt pc 32 then (bif Nat.beq pc 31 then some (.iconst 0, 1, 0, 0, 0, .int 0) else none) else
       (bif Nat.beq pc 32 then some (.istore_n 2, 1, 2, 0, 0, mj_u) else none)))))) else
  (bif Nat.blt pc 52 then (bif Nat.blt pc 41 then (bif Nat.blt pc 35 then (bif Nat.blt pc 34 then (bif Nat.beq pc 33 then some (.iload_n 2, 1, 2, 0, 0, mj_u) else none) else
      (bif Nat.beq pc 34 then some (.aload_n 0, 1, 0, 0, 0, mj_u) else none)) else
     (bif Nat.blt pc 38 then (bif Nat.beq pc 35 then some (.getfield 22, 3, 7, 0, 262, .null) else none) else
      (bif Nat.beq pc 38 then some (.getfield 40, 3, 4, 5, 106, .int 0) else none))) else
    (bif Nat.blt pc 45 then (bif Nat.blt pc 44 then (bif Nat.beq pc 41 then some (.if_icmp .ge 30, 3, 71, 0, 0, mj_u) else none) else
      (bif Nat.beq pc 44 then some (.aload_n 0, 1, 0, 0, 0, mj_u) else none)) else
     (bif Nat.blt pc 48 then (bif Nat.beq pc 45 then some (.getfield 18, 3, 7, 2, 265, .null) else none) else
      (bif Nat.blt pc 49 then (bif Nat.beq pc 48 then some (.aload_n 0, 1, 0, 0, 0, mj_u) else none) else
       (bif Nat.beq pc 49 then some (.getfield 9, 3, 7, 1, 263, .null) else none))))) else
   (bif Nat.blt pc 61 then (bif Nat.blt pc 56 then (bif Nat.blt pc 55 then (bif Nat.beq pc 52 then some (.invokevirtual 46, 3, 24, 0, 827, mj_u) else none) else
      (bif Nat.beq pc 55 then some (.istore_n 3, 1, 3, 0, 0, mj_u) else none)) else
     (bif Nat.blt pc 57 then (bif Nat.beq pc 56 then some (.iload_n 3, 1, 3, 0, 0, mj_u) else none) else
      (bif Nat.blt pc 60 then (bif Nat.beq pc 57 then some (.ifCond .lt 8, 3, 65, 0, 0, mj_u) else none) else
       (bif Nat.beq pc 60 then some (.aload_n 0, 1, 0, 0, 0, mj_u) else none)))) else
    (bif Nat.blt pc 65 then (bif Nat.blt pc 62 then (bif Nat.beq pc 61 then some (.iload_n 3, 1, 3, 0, 0, mj_u) else none) else
      (bif Nat.beq pc 62 then some (.invokevirtual 50, 3, 103, 0, 828, mj_u) else none)) else
     (bif Nat.blt pc 68 then (bif Nat.beq pc 65 then some (.iinc 2 1, 3, 2, 0, 0, .int 1) else none) else
      (bif Nat.blt pc 71 then (bif Nat.beq pc 68 then some (.goto (-35), 3, 33, 0, 0, mj_u) else none) else
       (bif Nat.beq pc 71 then some (.return_, 1, 0, 0, 0, mj_u) else none))))))
def m_Ways_spreadFrom : mj_M := (102, prog_9_method_2_code, 4, (Option.none : Option Jvm.ClassFile.FieldType), 7, 1, 822, 820, 821, 53, 72, k_Ways_spreadFrom)
/-- WatershedMap$Ways.spread(I)V -/
def k_Ways_spread : Nat → Option mj_I := fun pc =>
  bif Nat.blt pc 42 then (bif Nat.blt pc 22 then (bif Nat.blt pc 9 then (bif Nat.blt pc 3 then (bif Nat.blt pc 1 then (bif Nat.beq pc 0 then some (.iconst 0, 1, 0, 0, 0, .int 0) else none) else
      (bif Nat.blt pc 2 then (bif Nat.beq pc 1 then some (.istore_n 2, 1, 2, 0, 0, mj_u) else none) else
       (bif Nat.beq pc 2 then some (.iload_n 2, 1, 2, 0, 0, mj_u) else none))) else
     (bif Nat.blt pc 5 then (bif Nat.beq pc 3 then some (.bipush 8, 2, 0, 0, 0, .int 8) else none) else
      (bif Nat.blt pc 8 then (bif Nat.beq pc 5 then some (.if_icmp .ge 85, 3, 90, 0, 0, mj_u) else none) else
       (bif Nat.beq pc 8 then some (.aload_n 0, 1, 0, 0, 0, mj_u) else none)))) else
    (bif Nat.blt pc 14 then (bif Nat.blt pc 12 then (bif Nat.beq pc 9 then some (.getfield 22, 3, 7, 0, 262, .null) else none) else
      (bif Nat.blt pc 13 then (bif Nat.beq pc 12 then some (.iload_n 1, 1, 1, 0, 0, mj_u) else none) else
       (bif Nat.beq pc 13 then some (.iload_n 2, 1, 2, 0, 0, mj_u) else none))) else
     (bif Nat.blt pc 18 then (bif Nat.blt pc 17 then (bif Nat.beq pc 14 then some (.invokevirtual 53, 3, 16, 0, 832, mj_u) else none) else
       (bif Nat.beq pc 17 then some (.istore_n 3, 1, 3, 0, 0, mj_u) else none)) else
      (bif Nat.blt pc 19 then (bif Nat.beq pc 18 then some (.iload_n 3, 1, 3, 0, 0, mj_u) else none) else
       (bif Nat.beq pc 19 then some (.ifCond .lt 65, 3, 84, 0, 0, mj_u) else none))))) else
   (bif Nat.blt pc 31 then (bif Nat.blt pc 27 then (bif Nat.blt pc 23 then (bif Nat.beq pc 22 then some (.aload_n 0, 1, 0, 0, 0, mj_u) else none) else
      (bif Nat.blt pc 26 then (bif Nat.beq pc 23 then some (.getfield 9, 3, 7, 1, 263, .null) else none) else
       (bif Nat.beq pc 26 then some (.iload_n 1, 1, 1, 0, 0, mj_u) else none))) else
     (bif Nat.blt pc 29 then (bif Nat.blt pc 28 then (bif Nat.beq pc 27 then some (.iaload, 1, 0, 0, 0, mj_u) else none) else
       (bif Nat.beq pc 28 then some (.aload_n 0, 1, 0, 0, 0, mj_u) else none)) else
      (bif Nat.blt pc 30 then (bif Nat.beq pc 29 then some (.iload_n 1, 1, 1, 0, 0, mj_u) else none) else
       (bif Nat.beq pc 30 then some (.iload_n 3, 1, 3, 0, 0, mj_u) else none)))) else
    (bif Nat.blt pc 36 then (bif Nat.blt pc 32 then (bif Nat.beq pc 31 then some (.iload_n 2, 1, 2, 0, 0, mj_u) else none) else
      (bif Nat.blt pc 35 then (bif Nat.beq pc 32 then some (.invokevirtual 57, 3, 104, 0, 833, mj_u) else none) else
       (bif Nat.beq pc 35 then some (.iadd, 1, 0, 0, 0, mj_u) else none))) else
     (bif Nat.blt pc 40 then (bif Nat.blt pc 37 then (bif Nat.beq pc 36 then some (.aload_n 0, 1, 0, 0, 0, mj_u) else none) else
       (bif Nat.beq pc 37 then some (.getfield 9, 3, 7, 1, 263, .null) else none)) else
      (bif Nat.blt pc 41 then (bif Nat.beq pc 40 then some (.iload_n 3, 1, 3, 0, 0, mj_u) else none) else
       (bif Nat.beq pc 41 then some (.iaload, 1, 0, 0, 0, mj_u) else none)))))) else
  (bif Nat.blt pc 69 then (bif Nat.blt pc 56 then (bif Nat.blt pc 49 then (bif Nat.blt pc 45 then (bif Nat.beq pc 42 then some (.if_icmp .ge 42, 3, 84, 0, 0, mj_u) else none) else
      (bif Nat.blt pc 46 then (bif Nat.beq pc 45 then some (.aload_n 0, 1, 0, 0, 0, mj_u) else none) else
       (bif Nat.beq pc 46 then some (.getfield 9, 3, 7, 1, 263, .null) else none))) else
     (bif Nat.blt pc 51 then (bif Nat.blt pc 50 then (bif Nat.beq pc 49 then some (.iload_n 3, 1, 3, 0, 0, mj_u) else none) else
       (bif Nat.beq pc 50 then some (.iaload, 1, 0, 0, 0, mj_u) else none)) else
      (bif Nat.blt pc 53 then (bif Nat.beq pc 51 then some (.ldc 26, 2, 0, 0, 823, .int 1000000) else none) else
       (bif Nat.beq pc 53 then some (.if_icmp .ne 11, 3, 64, 0, 0, mj_u) else none)))) else
    (bif Nat.blt pc 61 then (bif Nat.blt pc 57 then (bif Nat.beq pc 56 then some (.aload_n 0, 1, 0, 0, 0, mj_u) else none) else
      (bif Nat.blt pc 60 then (bif Nat.beq pc 57 then some (.getfield 18, 3, 7, 2, 265, .null) else none) else
       (bif Nat.beq pc 60 then some (.iload_n 3, 1, 3, 0, 0, mj_u) else none))) else
     (bif Nat.blt pc 65 then (bif Nat.blt pc 64 then (bif Nat.beq pc 61 then some (.invokevirtual 36, 3, 23, 0, 826, mj_u) else none) else
       (bif Nat.beq pc 64 then some (.aload_n 0, 1, 0, 0, 0, mj_u) else none)) else
      (bif Nat.blt pc 68 then (bif Nat.beq pc 65 then some (.getfield 9, 3, 7, 1, 263, .null) else none) else
       (bif Nat.beq pc 68 then some (.iload_n 3, 1, 3, 0, 0, mj_u) else none))))) else
   (bif Nat.blt pc 78 then (bif Nat.blt pc 74 then (bif Nat.blt pc 70 then (bif Nat.beq pc 69 then some (.aload_n 0, 1, 0, 0, 0, mj_u) else none) else
      (bif Nat.blt pc 73 then (bif Nat.beq pc 70 then some (.getfield 9, 3, 7, 1, 263, .null) else none) else
       (bif Nat.beq pc 73 then some (.iload_n 1, 1, 1, 0, 0, mj_u) else none))) else
     (bif Nat.blt pc 76 then (bif Nat.blt pc 75 then (bif Nat.beq pc 74 then some (.iaload, 1, 0, 0, 0, mj_u) else none) else
       (bif Nat.beq pc 75 then some (.aload_n 0, 1, 0, 0, 0, mj_u) else none)) else
      (bif Nat.blt pc 77 then (bif Nat.beq pc 76 then some (.iload_n 1, 1, 1, 0, 0, mj_u) else none) else
       (bif Nat.beq pc 77 then some (.iload_n 3, 1, 3, 0, 0, mj_u) else none)))) else
    (bif Nat.blt pc 83 then (bif Nat.blt pc 79 then (bif Nat.beq pc 78 then some (.iload_n 2, 1, 2, 0, 0, mj_u) else none) else
      (bif Nat.blt pc 82 then (bif Nat.beq pc 79 then some (.invokevirtual 57, 3, 104, 0, 833, mj_u) else none) else
       (bif Nat.beq pc 82 then some (.iadd, 1, 0, 0, 0, mj_u) else none))) else
     (bif Nat.blt pc 87 then (bif Nat.blt pc 84 then (bif Nat.beq pc 83 then some (.iastore, 1, 0, 0, 0, mj_u) else none) else
       (bif Nat.beq pc 84 then some (.iinc 2 1, 3, 2, 0, 0, .int 1) else none)) else
      (bif Nat.blt pc 90 then (bif Nat.beq pc 87 then some (.goto (-85), 3, 2, 0, 0, mj_u) else none) else
       (bif Nat.beq pc 90 then some (.return_, 1, 0, 0, 0, mj_u) else none))))))
def m_Ways_spread : mj_M := (103, prog_9_method_3_code, 4, (Option.none : Option Jvm.ClassFile.FieldType), 7, 1, 831, 830, 23, 53, 91, k_Ways_spread)
/-- WatershedMap$Ways.step(III)I -/
def k_Ways_step : Nat → Option mj_I := fun pc =>
  bif Nat.blt pc 14 then (bif Nat.blt pc 7 then (bif Nat.blt pc 1 then (bif Nat.beq pc 0 then some (.iload_n 3, 1, 3, 0, 0, mj_u) else none) else
    (bif Nat.blt pc 4 then (bif Nat.beq pc 1 then some (.invokestatic 61, 3, 37, 0, 837, mj_u) else none) else
     (bif Nat.beq pc 4 then some (.ifCond .eq 8, 3, 12, 0, 0, mj_u) else none))) else
   (bif Nat.blt pc 9 then (bif Nat.beq pc 7 then some (.bipush 14, 2, 0, 0, 0, .int 14) else none) else
    (bif Nat.blt pc 12 then (bif Nat.beq pc 9 then some (.goto 5, 3, 14, 0, 0, mj_u) else none) else
     (bif Nat.beq pc 12 then some (.bipush 10, 2, 0, 0, 0, .int 10) else none)))) else
  (bif Nat.blt pc 19 then (bif Nat.blt pc 15 then (bif Nat.beq pc 14 then some (.aload_n 0, 1, 0, 0, 0, mj_u) else none) else
    (bif Nat.blt pc 18 then (bif Nat.beq pc 15 then some (.getfield 22, 3, 7, 0, 262, .null) else none) else
     (bif Nat.beq pc 18 then some (.iload_n 1, 1, 1, 0, 0, mj_u) else none))) else
   (bif Nat.blt pc 23 then (bif Nat.blt pc 20 then (bif Nat.beq pc 19 then some (.iload_n 2, 1, 2, 0, 0, mj_u) else none) else
     (bif Nat.beq pc 20 then some (.invokevirtual 65, 3, 53, 0, 838, mj_u) else none)) else
    (bif Nat.blt pc 24 then (bif Nat.beq pc 23 then some (.iadd, 1, 0, 0, 0, mj_u) else none) else
     (bif Nat.beq pc 24 then some (.ireturn, 1, 0, 0, 0, mj_u) else none))))
def m_Ways_step : mj_M := (104, prog_9_method_4_code, 4, (Option.some Jvm.ClassFile.FieldType.int), 7, 3, 836, 835, 24, 53, 25, k_Ways_step)
/-- WatershedMap.way(IIIII)I -/
def k_W_way : Nat → Option mj_I := fun pc =>
  bif Nat.blt pc 33 then (bif Nat.blt pc 15 then (bif Nat.blt pc 6 then (bif Nat.blt pc 2 then (bif Nat.blt pc 1 then (bif Nat.beq pc 0 then some (.aload_n 0, 1, 0, 0, 0, mj_u) else none) else
      (bif Nat.beq pc 1 then some (.iload_n 1, 1, 1, 0, 0, mj_u) else none)) else
     (bif Nat.blt pc 3 then (bif Nat.beq pc 2 then some (.iload_n 2, 1, 2, 0, 0, mj_u) else none) else
      (bif Nat.beq pc 3 then some (.invokevirtual 72, 3, 75, 0, 647, mj_u) else none))) else
    (bif Nat.blt pc 8 then (bif Nat.blt pc 7 then (bif Nat.beq pc 6 then some (.aload_n 0, 1, 0, 0, 0, mj_u) else none) else
      (bif Nat.beq pc 7 then some (.iload_n 3, 1, 3, 0, 0, mj_u) else none)) else
     (bif Nat.blt pc 10 then (bif Nat.beq pc 8 then some (.iload 4, 2, 4, 0, 0, mj_u) else none) else
      (bif Nat.blt pc 13 then (bif Nat.beq pc 10 then some (.invokevirtual 72, 3, 75, 0, 647, mj_u) else none) else
       (bif Nat.beq pc 13 then some (.iload 5, 2, 5, 0, 0, mj_u) else none))))) else
   (bif Nat.blt pc 24 then (bif Nat.blt pc 21 then (bif Nat.blt pc 18 then (bif Nat.beq pc 15 then some (.ifCond .ge 13, 3, 28, 0, 0, mj_u) else none) else
      (bif Nat.beq pc 18 then some (.new 169, 3, 1000, 0, 0, mj_u) else none)) else
     (bif Nat.blt pc 22 then (bif Nat.beq pc 21 then some (.dup, 1, 0, 0, 0, mj_u) else none) else
      (bif Nat.beq pc 22 then some (.ldc 171, 2, 0, 0, 0, mj_u) else none))) else
    (bif Nat.blt pc 28 then (bif Nat.blt pc 27 then (bif Nat.beq pc 24 then some (.invokespecial 173, 3, 1002, 0, 613, mj_u) else none) else
      (bif Nat.beq pc 27 then some (.athrow, 1, 0, 0, 0, mj_u) else none)) else
     (bif Nat.blt pc 29 then (bif Nat.beq pc 28 then some (.aload_n 0, 1, 0, 0, 0, mj_u) else none) else
      (bif Nat.blt pc 32 then (bif Nat.beq pc 29 then some (.getfield 10, 3, 8, 0, 296, .null) else none) else
       (bif Nat.beq pc 32 then some (.iload_n 1, 1, 1, 0, 0, mj_u) else none)))))) else
  (bif Nat.blt pc 52 then (bif Nat.blt pc 40 then (bif Nat.blt pc 37 then (bif Nat.blt pc 34 then (bif Nat.beq pc 33 then some (.iload_n 2, 1, 2, 0, 0, mj_u) else none) else
      (bif Nat.beq pc 34 then some (.invokevirtual 75, 3, 12, 0, 668, mj_u) else none)) else
     (bif Nat.blt pc 39 then (bif Nat.beq pc 37 then some (.istore 6, 2, 6, 0, 0, mj_u) else none) else
      (bif Nat.beq pc 39 then some (.aload_n 0, 1, 0, 0, 0, mj_u) else none))) else
    (bif Nat.blt pc 45 then (bif Nat.blt pc 43 then (bif Nat.beq pc 40 then some (.getfield 49, 3, 8, 5, 301, .null) else none) else
      (bif Nat.beq pc 43 then some (.iload 6, 2, 6, 0, 0, mj_u) else none)) else
     (bif Nat.blt pc 48 then (bif Nat.beq pc 45 then some (.invokevirtual 163, 3, 102, 0, 819, mj_u) else none) else
      (bif Nat.blt pc 49 then (bif Nat.beq pc 48 then some (.aload_n 0, 1, 0, 0, 0, mj_u) else none) else
       (bif Nat.beq pc 49 then some (.getfield 49, 3, 8, 5, 301, .null) else none))))) else
   (bif Nat.blt pc 59 then (bif Nat.blt pc 55 then (bif Nat.blt pc 54 then (bif Nat.beq pc 52 then some (.iload 6, 2, 6, 0, 0, mj_u) else none) else
      (bif Nat.beq pc 54 then some (.aload_n 0, 1, 0, 0, 0, mj_u) else none)) else
     (bif Nat.blt pc 58 then (bif Nat.beq pc 55 then some (.getfield 10, 3, 8, 0, 296, .null) else none) else
      (bif Nat.beq pc 58 then some (.iload_n 3, 1, 3, 0, 0, mj_u) else none))) else
    (bif Nat.blt pc 64 then (bif Nat.blt pc 61 then (bif Nat.beq pc 59 then some (.iload 4, 2, 4, 0, 0, mj_u) else none) else
      (bif Nat.beq pc 61 then some (.invokevirtual 75, 3, 12, 0, 668, mj_u) else none)) else
     (bif Nat.blt pc 66 then (bif Nat.beq pc 64 then some (.iload 5, 2, 5, 0, 0, mj_u) else none) else
      (bif Nat.blt pc 69 then (bif Nat.beq pc 66 then some (.invokevirtual 176, 3, 106, 0, 847, mj_u) else none) else
       (bif Nat.beq pc 69 then some (.ireturn, 1, 0, 0, 0, mj_u) else none))))))
def m_W_way : mj_M := (105, prog_1_method_26_code, 7, (Option.some Jvm.ClassFile.FieldType.int), 8, 5, 845, 843, 844, 45, 70, k_W_way)
/-- WatershedMap$Ways.goBack(III)I -/
def k_Ways_goBack : Nat → Option mj_I := fun pc =>
  bif Nat.blt pc 25 then (bif Nat.blt pc 13 then (bif Nat.blt pc 5 then (bif Nat.blt pc 1 then (bif Nat.beq pc 0 then some (.iload_n 3, 1, 3, 0, 0, mj_u) else none) else
     (bif Nat.blt pc 2 then (bif Nat.beq pc 1 then some (.aload_n 0, 1, 0, 0, 0, mj_u) else none) else
      (bif Nat.beq pc 2 then some (.getfield 22, 3, 7, 0, 262, .null) else none))) else
    (bif Nat.blt pc 11 then (bif Nat.blt pc 8 then (bif Nat.beq pc 5 then some (.getfield 40, 3, 4, 5, 106, .int 0) else none) else
      (bif Nat.beq pc 8 then some (.if_icmp .lt 5, 3, 13, 0, 0, mj_u) else none)) else
     (bif Nat.blt pc 12 then (bif Nat.beq pc 11 then some (.iconst (-1), 1, 0, 0, 0, .int (-1)) else none) else
      (bif Nat.beq pc 12 then some (.ireturn, 1, 0, 0, 0, mj_u) else none)))) else
   (bif Nat.blt pc 17 then (bif Nat.blt pc 14 then (bif Nat.beq pc 13 then some (.iload_n 2, 1, 2, 0, 0, mj_u) else none) else
     (bif Nat.blt pc 16 then (bif Nat.beq pc 14 then some (.istore 4, 2, 4, 0, 0, mj_u) else none) else
      (bif Nat.beq pc 16 then some (.iconst 0, 1, 0, 0, 0, .int 0) else none))) else
    (bif Nat.blt pc 21 then (bif Nat.blt pc 19 then (bif Nat.beq pc 17 then some (.istore 5, 2, 5, 0, 0, mj_u) else none) else
      (bif Nat.beq pc 19 then some (.iload 5, 2, 5, 0, 0, mj_u) else none)) else
     (bif Nat.blt pc 22 then (bif Nat.beq pc 21 then some (.iload_n 3, 1, 3, 0, 0, mj_u) else none) else
      (bif Nat.beq pc 22 then some (.if_icmp .ge 32, 3, 54, 0, 0, mj_u) else none))))) else
  (bif Nat.blt pc 40 then (bif Nat.blt pc 32 then (bif Nat.blt pc 27 then (bif Nat.beq pc 25 then some (.iload 4, 2, 4, 0, 0, mj_u) else none) else
     (bif Nat.blt pc 30 then (bif Nat.beq pc 27 then some (.ifCond .lt 27, 3, 54, 0, 0, mj_u) else none) else
      (bif Nat.beq pc 30 then some (.iload 4, 2, 4, 0, 0, mj_u) else none))) else
    (bif Nat.blt pc 36 then (bif Nat.blt pc 33 then (bif Nat.beq pc 32 then some (.iload_n 1, 1, 1, 0, 0, mj_u) else none) else
      (bif Nat.beq pc 33 then some (.if_icmp .ne 7, 3, 40, 0, 0, mj_u) else none)) else
     (bif Nat.blt pc 37 then (bif Nat.beq pc 36 then some (.iconst (-1), 1, 0, 0, 0, .int (-1)) else none) else
      (bif Nat.beq pc 37 then some (.goto 9, 3, 46, 0, 0, mj_u) else none)))) else
   (bif Nat.blt pc 48 then (bif Nat.blt pc 43 then (bif Nat.blt pc 41 then (bif Nat.beq pc 40 then some (.aload_n 0, 1, 0, 0, 0, mj_u) else none) else
      (bif Nat.beq pc 41 then some (.iload 4, 2, 4, 0, 0, mj_u) else none)) else
     (bif Nat.blt pc 46 then (bif Nat.beq pc 43 then some (.invokevirtual 68, 3, 107, 0, 851, mj_u) else none) else
      (bif Nat.beq pc 46 then some (.istore 4, 2, 4, 0, 0, mj_u) else none))) else
    (bif Nat.blt pc 54 then (bif Nat.blt pc 51 then (bif Nat.beq pc 48 then some (.iinc 5 1, 3, 5, 0, 0, .int 1) else none) else
      (bif Nat.beq pc 51 then some (.goto (-32), 3, 19, 0, 0, mj_u) else none)) else
     (bif Nat.blt pc 56 then (bif Nat.beq pc 54 then some (.iload 4, 2, 4, 0, 0, mj_u) else none) else
      (bif Nat.beq pc 56 then some (.ireturn, 1, 0, 0, 0, mj_u) else none)))))
def m_Ways_goBack : mj_M := (106, prog_9_method_5_code, 6, (Option.some Jvm.ClassFile.FieldType.int), 7, 3, 850, 848, 849, 53, 57, k_Ways_goBack)
/-- WatershedMap$Ways.fieldAhead(I)I -/
def k_Ways_fieldAhead : Nat → Option mj_I := fun pc =>
  bif Nat.blt pc 34 then (bif Nat.blt pc 15 then (bif Nat.blt pc 5 then (bif Nat.blt pc 2 then (bif Nat.blt pc 1 then (bif Nat.beq pc 0 then some (.iconst (-1), 1, 0, 0, 0, .int (-1)) else none) else
      (bif Nat.beq pc 1 then some (.istore_n 2, 1, 2, 0, 0, mj_u) else none)) else
     (bif Nat.blt pc 3 then (bif Nat.beq pc 2 then some (.iconst 0, 1, 0, 0, 0, .int 0) else none) else
      (bif Nat.blt pc 4 then (bif Nat.beq pc 3 then some (.istore_n 3, 1, 3, 0, 0, mj_u) else none) else
       (bif Nat.beq pc 4 then some (.iload_n 3, 1, 3, 0, 0, mj_u) else none)))) else
    (bif Nat.blt pc 10 then (bif Nat.blt pc 7 then (bif Nat.beq pc 5 then some (.bipush 8, 2, 0, 0, 0, .int 8) else none) else
      (bif Nat.beq pc 7 then some (.if_icmp .ge 63, 3, 70, 0, 0, mj_u) else none)) else
     (bif Nat.blt pc 11 then (bif Nat.beq pc 10 then some (.aload_n 0, 1, 0, 0, 0, mj_u) else none) else
      (bif Nat.blt pc 14 then (bif Nat.beq pc 11 then some (.getfield 22, 3, 7, 0, 262, .null) else none) else
       (bif Nat.beq pc 14 then some (.iload_n 1, 1, 1, 0, 0, mj_u) else none))))) else
   (bif Nat.blt pc 26 then (bif Nat.blt pc 19 then (bif Nat.blt pc 16 then (bif Nat.beq pc 15 then some (.iload_n 3, 1, 3, 0, 0, mj_u) else none) else
      (bif Nat.beq pc 16 then some (.invokevirtual 53, 3, 16, 0, 832, mj_u) else none)) else
     (bif Nat.blt pc 21 then (bif Nat.beq pc 19 then some (.istore 4, 2, 4, 0, 0, mj_u) else none) else
      (bif Nat.blt pc 23 then (bif Nat.beq pc 21 then some (.iload 4, 2, 4, 0, 0, mj_u) else none) else
       (bif Nat.beq pc 23 then some (.ifCond .lt 41, 3, 64, 0, 0, mj_u) else none)))) else
    (bif Nat.blt pc 30 then (bif Nat.blt pc 27 then (bif Nat.beq pc 26 then some (.aload_n 0, 1, 0, 0, 0, mj_u) else none) else
      (bif Nat.beq pc 27 then some (.getfield 9, 3, 7, 1, 263, .null) else none)) else
     (bif Nat.blt pc 32 then (bif Nat.beq pc 30 then some (.iload 4, 2, 4, 0, 0, mj_u) else none) else
      (bif Nat.blt pc 33 then (bif Nat.beq pc 32 then some (.iaload, 1, 0, 0, 0, mj_u) else none) else
       (bif Nat.beq pc 33 then some (.aload_n 0, 1, 0, 0, 0, mj_u) else none)))))) else
  (bif Nat.blt pc 51 then (bif Nat.blt pc 42 then (bif Nat.blt pc 37 then (bif Nat.blt pc 36 then (bif Nat.beq pc 34 then some (.iload 4, 2, 4, 0, 0, mj_u) else none) else
      (bif Nat.beq pc 36 then some (.iload_n 1, 1, 1, 0, 0, mj_u) else none)) else
     (bif Nat.blt pc 38 then (bif Nat.beq pc 37 then some (.iload_n 3, 1, 3, 0, 0, mj_u) else none) else
      (bif Nat.blt pc 41 then (bif Nat.beq pc 38 then some (.invokevirtual 57, 3, 104, 0, 833, mj_u) else none) else
       (bif Nat.beq pc 41 then some (.iadd, 1, 0, 0, 0, mj_u) else none)))) else
    (bif Nat.blt pc 46 then (bif Nat.blt pc 43 then (bif Nat.beq pc 42 then some (.aload_n 0, 1, 0, 0, 0, mj_u) else none) else
      (bif Nat.beq pc 43 then some (.getfield 9, 3, 7, 1, 263, .null) else none)) else
     (bif Nat.blt pc 47 then (bif Nat.beq pc 46 then some (.iload_n 1, 1, 1, 0, 0, mj_u) else none) else
      (bif Nat.blt pc 48 then (bif Nat.beq pc 47 then some (.iaload, 1, 0, 0, 0, mj_u) else none) else
       (bif Nat.beq pc 48 then some (.if_icmp .ne 16, 3, 64, 0, 0, mj_u) else none))))) else
   (bif Nat.blt pc 61 then (bif Nat.blt pc 55 then (bif Nat.blt pc 52 then (bif Nat.beq pc 51 then some (.iload_n 2, 1, 2, 0, 0, mj_u) else none) else
      (bif Nat.beq pc 52 then some (.ifCond .lt 9, 3, 61, 0, 0, mj_u) else none)) else
     (bif Nat.blt pc 57 then (bif Nat.beq pc 55 then some (.iload 4, 2, 4, 0, 0, mj_u) else none) else
      (bif Nat.blt pc 58 then (bif Nat.beq pc 57 then some (.iload_n 2, 1, 2, 0, 0, mj_u) else none) else
       (bif Nat.beq pc 58 then some (.if_icmp .ge 6, 3, 64, 0, 0, mj_u) else none)))) else
    (bif Nat.blt pc 67 then (bif Nat.blt pc 63 then (bif Nat.beq pc 61 then some (.iload 4, 2, 4, 0, 0, mj_u) else none) else
      (bif Nat.blt pc 64 then (bif Nat.beq pc 63 then some (.istore_n 2, 1, 2, 0, 0, mj_u) else none) else
       (bif Nat.beq pc 64 then some (.iinc 3 1, 3, 3, 0, 0, .int 1) else none))) else
     (bif Nat.blt pc 70 then (bif Nat.beq pc 67 then some (.goto (-63), 3, 4, 0, 0, mj_u) else none) else
      (bif Nat.blt pc 71 then (bif Nat.beq pc 70 then some (.iload_n 2, 1, 2, 0, 0, mj_u) else none) else
       (bif Nat.beq pc 71 then some (.ireturn, 1, 0, 0, 0, mj_u) else none))))))
def m_Ways_fieldAhead : mj_M := (107, prog_9_method_6_code, 5, (Option.some Jvm.ClassFile.FieldType.int), 7, 1, 854, 853, 25, 53, 72, k_Ways_fieldAhead)
/-- WatershedMap.volumeWith(III)I -/
def k_W_volumeWith : Nat → Option mj_I := fun pc =>
  bif Nat.blt pc 31 then (bif Nat.blt pc 14 then (bif Nat.blt pc 6 then (bif Nat.blt pc 2 then (bif Nat.blt pc 1 then (bif Nat.beq pc 0 then some (.aload_n 0, 1, 0, 0, 0, mj_u) else none) else
      (bif Nat.beq pc 1 then some (.iload_n 1, 1, 1, 0, 0, mj_u) else none)) else
     (bif Nat.blt pc 3 then (bif Nat.beq pc 2 then some (.iload_n 2, 1, 2, 0, 0, mj_u) else none) else
      (bif Nat.beq pc 3 then some (.invokevirtual 72, 3, 75, 0, 647, mj_u) else none))) else
    (bif Nat.blt pc 8 then (bif Nat.blt pc 7 then (bif Nat.beq pc 6 then some (.iload_n 3, 1, 3, 0, 0, mj_u) else none) else
      (bif Nat.beq pc 7 then some (.iconst 0, 1, 0, 0, 0, .int 0) else none)) else
     (bif Nat.blt pc 11 then (bif Nat.beq pc 8 then some (.sipush 999, 3, 0, 0, 0, .int 999) else none) else
      (bif Nat.beq pc 11 then some (.invokestatic 65, 3, 73, 0, 569, mj_u) else none)))) else
   (bif Nat.blt pc 20 then (bif Nat.blt pc 18 then (bif Nat.blt pc 15 then (bif Nat.beq pc 14 then some (.aload_n 0, 1, 0, 0, 0, mj_u) else none) else
      (bif Nat.beq pc 15 then some (.getfield 10, 3, 8, 0, 296, .null) else none)) else
     (bif Nat.blt pc 19 then (bif Nat.beq pc 18 then some (.iload_n 1, 1, 1, 0, 0, mj_u) else none) else
      (bif Nat.beq pc 19 then some (.iload_n 2, 1, 2, 0, 0, mj_u) else none))) else
    (bif Nat.blt pc 25 then (bif Nat.blt pc 23 then (bif Nat.beq pc 20 then some (.invokevirtual 75, 3, 12, 0, 668, mj_u) else none) else
      (bif Nat.beq pc 23 then some (.istore 4, 2, 4, 0, 0, mj_u) else none)) else
     (bif Nat.blt pc 26 then (bif Nat.beq pc 25 then some (.aload_n 0, 1, 0, 0, 0, mj_u) else none) else
      (bif Nat.blt pc 29 then (bif Nat.beq pc 26 then some (.getfield 10, 3, 8, 0, 296, .null) else none) else
       (bif Nat.beq pc 29 then some (.iload 4, 2, 4, 0, 0, mj_u) else none)))))) else
  (bif Nat.blt pc 51 then (bif Nat.blt pc 38 then (bif Nat.blt pc 35 then (bif Nat.blt pc 32 then (bif Nat.beq pc 31 then some (.iload_n 3, 1, 3, 0, 0, mj_u) else none) else
      (bif Nat.beq pc 32 then some (.invokevirtual 79, 3, 17, 0, 669, mj_u) else none)) else
     (bif Nat.blt pc 37 then (bif Nat.beq pc 35 then some (.istore 5, 2, 5, 0, 0, mj_u) else none) else
      (bif Nat.beq pc 37 then some (.aload_n 0, 1, 0, 0, 0, mj_u) else none))) else
    (bif Nat.blt pc 44 then (bif Nat.blt pc 41 then (bif Nat.beq pc 38 then some (.getfield 28, 3, 8, 2, 298, .null) else none) else
      (bif Nat.beq pc 41 then some (.invokevirtual 108, 3, 19, 0, 341, mj_u) else none)) else
     (bif Nat.blt pc 45 then (bif Nat.beq pc 44 then some (.aload_n 0, 1, 0, 0, 0, mj_u) else none) else
      (bif Nat.blt pc 48 then (bif Nat.beq pc 45 then some (.getfield 28, 3, 8, 2, 298, .null) else none) else
       (bif Nat.beq pc 48 then some (.invokevirtual 148, 3, 49, 0, 464, mj_u) else none))))) else
   (bif Nat.blt pc 59 then (bif Nat.blt pc 54 then (bif Nat.blt pc 53 then (bif Nat.beq pc 51 then some (.istore 6, 2, 6, 0, 0, mj_u) else none) else
      (bif Nat.beq pc 53 then some (.aload_n 0, 1, 0, 0, 0, mj_u) else none)) else
     (bif Nat.blt pc 57 then (bif Nat.beq pc 54 then some (.getfield 10, 3, 8, 0, 296, .null) else none) else
      (bif Nat.beq pc 57 then some (.iload 4, 2, 4, 0, 0, mj_u) else none))) else
    (bif Nat.blt pc 64 then (bif Nat.blt pc 61 then (bif Nat.beq pc 59 then some (.iload 5, 2, 5, 0, 0, mj_u) else none) else
      (bif Nat.beq pc 61 then some (.invokevirtual 79, 3, 17, 0, 669, mj_u) else none)) else
     (bif Nat.blt pc 65 then (bif Nat.beq pc 64 then some (.pop, 1, 0, 0, 0, mj_u) else none) else
      (bif Nat.blt pc 67 then (bif Nat.beq pc 65 then some (.iload 6, 2, 6, 0, 0, mj_u) else none) else
       (bif Nat.beq pc 67 then some (.ireturn, 1, 0, 0, 0, mj_u) else none))))))
def m_W_volumeWith : mj_M := (108, prog_1_method_28_code, 7, (Option.some Jvm.ClassFile.FieldType.int), 8, 3, 861, 859, 860, 45, 68, k_W_volumeWith)
/-- WatershedMap.endsWith(III)I -/
def k_W_endsWith : Nat → Option mj_I := fun pc =>
  bif Nat.blt pc 67 then (bif Nat.blt pc 30 then (bif Nat.blt pc 14 then (bif Nat.blt pc 6 then (bif Nat.blt pc 2 then (bif Nat.blt pc 1 then (bif Nat.beq pc 0 then some (.aload_n 0, 1, 0, 0, 0, mj_u) else none) else
       (bif Nat.beq pc 1 then some (.iload_n 1, 1, 1, 0, 0, mj_u) else none)) else
      (bif Nat.blt pc 3 then (bif Nat.beq pc 2 then some (.iload_n 2, 1, 2, 0, 0, mj_u) else none) else
       (bif Nat.beq pc 3 then some (.invokevirtual 72, 3, 75, 0, 647, mj_u) else none))) else
     (bif Nat.blt pc 8 then (bif Nat.blt pc 7 then (bif Nat.beq pc 6 then some (.iload_n 3, 1, 3, 0, 0, mj_u) else none) else
       (bif Nat.beq pc 7 then some (.iconst 0, 1, 0, 0, 0, .int 0) else none)) else
      (bif Nat.blt pc 11 then (bif Nat.beq pc 8 then some (.sipush 999, 3, 0, 0, 0, .int 999) else none) else
       (bif Nat.beq pc 11 then some (.invokestatic 65, 3, 73, 0, 569, mj_u) else none)))) else
    (bif Nat.blt pc 20 then (bif Nat.blt pc 18 then (bif Nat.blt pc 15 then (bif Nat.beq pc 14 then some (.aload_n 0, 1, 0, 0, 0, mj_u) else none) else
       (bif Nat.beq pc 15 then some (.getfield 10, 3, 8, 0, 296, .null) else none)) else
      (bif Nat.blt pc 19 then (bif Nat.beq pc 18 then some (.iload_n 1, 1, 1, 0, 0, mj_u) else none) else
       (bif Nat.beq pc 19 then some (.iload_n 2, 1, 2, 0, 0, mj_u) else none))) else
     (bif Nat.blt pc 25 then (bif Nat.blt pc 23 then (bif Nat.beq pc 20 then some (.invokevirtual 75, 3, 12, 0, 668, mj_u) else none) else
       (bif Nat.beq pc 23 then some (.istore 4, 2, 4, 0, 0, mj_u) else none)) else
      (bif Nat.blt pc 26 then (bif Nat.beq pc 25 then some (.aload_n 0, 1, 0, 0, 0, mj_u) else none) else
       (bif Nat.blt pc 29 then (bif Nat.beq pc 26 then some (.getfield 21, 3, 8, 1, 297, .null) else none) else
        (bif Nat.beq pc 29 then some (.aload_n 0, 1, 0, 0, 0, mj_u) else none)))))) else
   (bif Nat.blt pc 48 then (bif Nat.blt pc 40 then (bif Nat.blt pc 36 then (bif Nat.blt pc 33 then (bif Nat.beq pc 30 then some (.getfield 57, 3, 8, 7, 303, .int 0) else none) else
       (bif Nat.beq pc 33 then some (.invokevirtual 100, 3, 35, 0, 405, mj_u) else none)) else
      (bif Nat.blt pc 37 then (bif Nat.beq pc 36 then some (.aload_n 0, 1, 0, 0, 0, mj_u) else none) else
       (bif Nat.beq pc 37 then some (.getfield 21, 3, 8, 1, 297, .null) else none))) else
     (bif Nat.blt pc 44 then (bif Nat.blt pc 43 then (bif Nat.beq pc 40 then some (.getfield 183, 3, 6, 4, 134, .null) else none) else
       (bif Nat.beq pc 43 then some (.iconst 0, 1, 0, 0, 0, .int 0) else none)) else
      (bif Nat.blt pc 45 then (bif Nat.beq pc 44 then some (.aload_n 0, 1, 0, 0, 0, mj_u) else none) else
       (bif Nat.beq pc 45 then some (.getfield 53, 3, 8, 6, 302, .null) else none)))) else
    (bif Nat.blt pc 56 then (bif Nat.blt pc 52 then (bif Nat.blt pc 49 then (bif Nat.beq pc 48 then some (.iconst 0, 1, 0, 0, 0, .int 0) else none) else
       (bif Nat.beq pc 49 then some (.sipush 256, 3, 0, 0, 0, .int 256) else none)) else
      (bif Nat.blt pc 55 then (bif Nat.beq pc 52 then some (.invokestatic 186, 3, 1001, 0, 869, mj_u) else none) else
       (bif Nat.beq pc 55 then some (.aload_n 0, 1, 0, 0, 0, mj_u) else none))) else
     (bif Nat.blt pc 61 then (bif Nat.blt pc 59 then (bif Nat.beq pc 56 then some (.getfield 10, 3, 8, 0, 296, .null) else none) else
       (bif Nat.beq pc 59 then some (.iload 4, 2, 4, 0, 0, mj_u) else none)) else
      (bif Nat.blt pc 62 then (bif Nat.beq pc 61 then some (.iload_n 3, 1, 3, 0, 0, mj_u) else none) else
       (bif Nat.blt pc 65 then (bif Nat.beq pc 62 then some (.invokevirtual 79, 3, 17, 0, 669, mj_u) else none) else
        (bif Nat.beq pc 65 then some (.istore 5, 2, 5, 0, 0, mj_u) else none))))))) else
  (bif Nat.blt pc 99 then (bif Nat.blt pc 84 then (bif Nat.blt pc 75 then (bif Nat.blt pc 71 then (bif Nat.blt pc 68 then (bif Nat.beq pc 67 then some (.aload_n 0, 1, 0, 0, 0, mj_u) else none) else
       (bif Nat.beq pc 68 then some (.getfield 21, 3, 8, 1, 297, .null) else none)) else
      (bif Nat.blt pc 72 then (bif Nat.beq pc 71 then some (.aload_n 0, 1, 0, 0, 0, mj_u) else none) else
       (bif Nat.beq pc 72 then some (.getfield 57, 3, 8, 7, 303, .int 0) else none))) else
     (bif Nat.blt pc 79 then (bif Nat.blt pc 78 then (bif Nat.beq pc 75 then some (.invokevirtual 100, 3, 35, 0, 405, mj_u) else none) else
       (bif Nat.beq pc 78 then some (.aload_n 0, 1, 0, 0, 0, mj_u) else none)) else
      (bif Nat.blt pc 82 then (bif Nat.beq pc 79 then some (.getfield 10, 3, 8, 0, 296, .null) else none) else
       (bif Nat.beq pc 82 then some (.iload 4, 2, 4, 0, 0, mj_u) else none)))) else
    (bif Nat.blt pc 91 then (bif Nat.blt pc 89 then (bif Nat.blt pc 86 then (bif Nat.beq pc 84 then some (.iload 5, 2, 5, 0, 0, mj_u) else none) else
       (bif Nat.beq pc 86 then some (.invokevirtual 79, 3, 17, 0, 669, mj_u) else none)) else
      (bif Nat.blt pc 90 then (bif Nat.beq pc 89 then some (.pop, 1, 0, 0, 0, mj_u) else none) else
       (bif Nat.beq pc 90 then some (.iconst 0, 1, 0, 0, 0, .int 0) else none))) else
     (bif Nat.blt pc 94 then (bif Nat.blt pc 93 then (bif Nat.beq pc 91 then some (.istore 6, 2, 6, 0, 0, mj_u) else none) else
       (bif Nat.beq pc 93 then some (.iconst 0, 1, 0, 0, 0, .int 0) else none)) else
      (bif Nat.blt pc 96 then (bif Nat.beq pc 94 then some (.istore 7, 2, 7, 0, 0, mj_u) else none) else
       (bif Nat.blt pc 98 then (bif Nat.beq pc 96 then some (.iload 7, 2, 7, 0, 0, mj_u) else none) else
        (bif Nat.beq pc 98 then some (.aload_n 0, 1, 0, 0, 0, mj_u) else none)))))) else
   (bif Nat.blt pc 119 then (bif Nat.blt pc 109 then (bif Nat.blt pc 105 then (bif Nat.blt pc 102 then (bif Nat.beq pc 99 then some (.getfield 10, 3, 8, 0, 296, .null) else none) else
       (bif Nat.beq pc 102 then some (.getfield 69, 3, 4, 5, 105, .int 0) else none)) else
      (bif Nat.blt pc 108 then (bif Nat.beq pc 105 then some (.if_icmp .ge 32, 3, 137, 0, 0, mj_u) else none) else
       (bif Nat.beq pc 108 then some (.aload_n 0, 1, 0, 0, 0, mj_u) else none))) else
     (bif Nat.blt pc 115 then (bif Nat.blt pc 112 then (bif Nat.beq pc 109 then some (.getfield 21, 3, 8, 1, 297, .null) else none) else
       (bif Nat.beq pc 112 then some (.getfield 183, 3, 6, 4, 134, .null) else none)) else
      (bif Nat.blt pc 117 then (bif Nat.beq pc 115 then some (.iload 7, 2, 7, 0, 0, mj_u) else none) else
       (bif Nat.blt pc 118 then (bif Nat.beq pc 117 then some (.iaload, 1, 0, 0, 0, mj_u) else none) else
        (bif Nat.beq pc 118 then some (.aload_n 0, 1, 0, 0, 0, mj_u) else none))))) else
    (bif Nat.blt pc 128 then (bif Nat.blt pc 124 then (bif Nat.blt pc 122 then (bif Nat.beq pc 119 then some (.getfield 53, 3, 8, 6, 302, .null) else none) else
       (bif Nat.beq pc 122 then some (.iload 7, 2, 7, 0, 0, mj_u) else none)) else
      (bif Nat.blt pc 125 then (bif Nat.beq pc 124 then some (.iaload, 1, 0, 0, 0, mj_u) else none) else
       (bif Nat.beq pc 125 then some (.if_icmp .eq 6, 3, 131, 0, 0, mj_u) else none))) else
     (bif Nat.blt pc 134 then (bif Nat.blt pc 131 then (bif Nat.beq pc 128 then some (.iinc 6 1, 3, 6, 0, 0, .int 1) else none) else
       (bif Nat.beq pc 131 then some (.iinc 7 1, 3, 7, 0, 0, .int 1) else none)) else
      (bif Nat.blt pc 137 then (bif Nat.beq pc 134 then some (.goto (-38), 3, 96, 0, 0, mj_u) else none) else
       (bif Nat.blt pc 139 then (bif Nat.beq pc 137 then some (.iload 6, 2, 6, 0, 0, mj_u) else none) else
        (bif Nat.beq pc 139 then some (.ireturn, 1, 0, 0, 0, mj_u) else none)))))))
def m_W_endsWith : mj_M := (109, prog_1_method_29_code, 8, (Option.some Jvm.ClassFile.FieldType.int), 8, 3, 868, 866, 867, 45, 140, k_W_endsWith)
/-- WatershedMap.lookout(II)I -/
def k_W_lookout : Nat → Option mj_I := fun pc =>
  bif Nat.blt pc 31 then (bif Nat.blt pc 15 then (bif Nat.blt pc 6 then (bif Nat.blt pc 2 then (bif Nat.blt pc 1 then (bif Nat.beq pc 0 then some (.aload_n 0, 1, 0, 0, 0, mj_u) else none) else
      (bif Nat.beq pc 1 then some (.iconst 0, 1, 0, 0, 0, .int 0) else none)) else
     (bif Nat.blt pc 3 then (bif Nat.beq pc 2 then some (.iload_n 1, 1, 1, 0, 0, mj_u) else none) else
      (bif Nat.beq pc 3 then some (.invokevirtual 72, 3, 75, 0, 647, mj_u) else none))) else
    (bif Nat.blt pc 8 then (bif Nat.blt pc 7 then (bif Nat.beq pc 6 then some (.iload_n 2, 1, 2, 0, 0, mj_u) else none) else
      (bif Nat.beq pc 7 then some (.iconst 0, 1, 0, 0, 0, .int 0) else none)) else
     (bif Nat.blt pc 11 then (bif Nat.beq pc 8 then some (.sipush 500, 3, 0, 0, 0, .int 500) else none) else
      (bif Nat.blt pc 14 then (bif Nat.beq pc 11 then some (.invokestatic 65, 3, 73, 0, 569, mj_u) else none) else
       (bif Nat.beq pc 14 then some (.iconst 0, 1, 0, 0, 0, .int 0) else none))))) else
   (bif Nat.blt pc 20 then (bif Nat.blt pc 17 then (bif Nat.blt pc 16 then (bif Nat.beq pc 15 then some (.istore_n 3, 1, 3, 0, 0, mj_u) else none) else
      (bif Nat.beq pc 16 then some (.iconst 0, 1, 0, 0, 0, .int 0) else none)) else
     (bif Nat.blt pc 19 then (bif Nat.beq pc 17 then some (.istore 4, 2, 4, 0, 0, mj_u) else none) else
      (bif Nat.beq pc 19 then some (.iconst 0, 1, 0, 0, 0, .int 0) else none))) else
    (bif Nat.blt pc 24 then (bif Nat.blt pc 22 then (bif Nat.beq pc 20 then some (.istore 5, 2, 5, 0, 0, mj_u) else none) else
      (bif Nat.beq pc 22 then some (.iload 5, 2, 5, 0, 0, mj_u) else none)) else
     (bif Nat.blt pc 25 then (bif Nat.beq pc 24 then some (.aload_n 0, 1, 0, 0, 0, mj_u) else none) else
      (bif Nat.blt pc 28 then (bif Nat.beq pc 25 then some (.getfield 10, 3, 8, 0, 296, .null) else none) else
       (bif Nat.beq pc 28 then some (.getfield 192, 3, 4, 3, 98, .int 0) else none)))))) else
  (bif Nat.blt pc 49 then (bif Nat.blt pc 40 then (bif Nat.blt pc 35 then (bif Nat.blt pc 34 then (bif Nat.beq pc 31 then some (.if_icmp .ge 36, 3, 67, 0, 0, mj_u) else none) else
      (bif Nat.beq pc 34 then some (.aload_n 0, 1, 0, 0, 0, mj_u) else none)) else
     (bif Nat.blt pc 38 then (bif Nat.beq pc 35 then some (.getfield 42, 3, 8, 4, 300, .null) else none) else
      (bif Nat.beq pc 38 then some (.iload 5, 2, 5, 0, 0, mj_u) else none))) else
    (bif Nat.blt pc 42 then (bif Nat.blt pc 41 then (bif Nat.beq pc 40 then some (.iload_n 1, 1, 1, 0, 0, mj_u) else none) else
      (bif Nat.beq pc 41 then some (.iload_n 2, 1, 2, 0, 0, mj_u) else none)) else
     (bif Nat.blt pc 45 then (bif Nat.beq pc 42 then some (.invokevirtual 159, 3, 100, 0, 807, mj_u) else none) else
      (bif Nat.blt pc 47 then (bif Nat.beq pc 45 then some (.istore 6, 2, 6, 0, 0, mj_u) else none) else
       (bif Nat.beq pc 47 then some (.iload 6, 2, 6, 0, 0, mj_u) else none))))) else
   (bif Nat.blt pc 60 then (bif Nat.blt pc 54 then (bif Nat.blt pc 51 then (bif Nat.beq pc 49 then some (.iload 4, 2, 4, 0, 0, mj_u) else none) else
      (bif Nat.beq pc 51 then some (.if_icmp .le 10, 3, 61, 0, 0, mj_u) else none)) else
     (bif Nat.blt pc 56 then (bif Nat.beq pc 54 then some (.iload 6, 2, 6, 0, 0, mj_u) else none) else
      (bif Nat.blt pc 58 then (bif Nat.beq pc 56 then some (.istore 4, 2, 4, 0, 0, mj_u) else none) else
       (bif Nat.beq pc 58 then some (.iload 5, 2, 5, 0, 0, mj_u) else none)))) else
    (bif Nat.blt pc 64 then (bif Nat.blt pc 61 then (bif Nat.beq pc 60 then some (.istore_n 3, 1, 3, 0, 0, mj_u) else none) else
      (bif Nat.beq pc 61 then some (.iinc 5 1, 3, 5, 0, 0, .int 1) else none)) else
     (bif Nat.blt pc 67 then (bif Nat.beq pc 64 then some (.goto (-42), 3, 22, 0, 0, mj_u) else none) else
      (bif Nat.blt pc 68 then (bif Nat.beq pc 67 then some (.iload_n 3, 1, 3, 0, 0, mj_u) else none) else
       (bif Nat.beq pc 68 then some (.ireturn, 1, 0, 0, 0, mj_u) else none))))))
def m_W_lookout : mj_M := (110, prog_1_method_30_code, 7, (Option.some Jvm.ClassFile.FieldType.int), 8, 2, 878, 876, 877, 45, 69, k_W_lookout)
/-- WatershedMapModel.<init>()V -/
def k_M_init : Nat → Option mj_I := fun pc =>
  bif Nat.blt pc 13 then (bif Nat.blt pc 5 then (bif Nat.blt pc 1 then (bif Nat.beq pc 0 then some (.aload_n 0, 1, 0, 0, 0, mj_u) else none) else
    (bif Nat.blt pc 4 then (bif Nat.beq pc 1 then some (.invokespecial 12, 3, 1000, 0, 884, mj_u) else none) else
     (bif Nat.beq pc 4 then some (.aload_n 0, 1, 0, 0, 0, mj_u) else none))) else
   (bif Nat.blt pc 9 then (bif Nat.blt pc 8 then (bif Nat.beq pc 5 then some (.new 18, 3, 9, 886, 885, mj_u) else none) else
     (bif Nat.beq pc 8 then some (.dup, 1, 0, 0, 0, mj_u) else none)) else
    (bif Nat.blt pc 11 then (bif Nat.beq pc 9 then some (.bipush 12, 2, 0, 0, 0, .int 12) else none) else
     (bif Nat.beq pc 11 then some (.bipush 12, 2, 0, 0, 0, .int 12) else none)))) else
  (bif Nat.blt pc 24 then (bif Nat.blt pc 18 then (bif Nat.blt pc 16 then (bif Nat.beq pc 13 then some (.sipush 144, 3, 0, 0, 0, .int 144) else none) else
     (bif Nat.beq pc 16 then some (.newarray .int, 2, 0, 0, 0, mj_u) else none)) else
    (bif Nat.blt pc 21 then (bif Nat.beq pc 18 then some (.invokespecial 20, 3, 112, 0, 887, mj_u) else none) else
     (bif Nat.beq pc 21 then some (.putfield 23, 3, 10, 1, 905, .null) else none))) else
   (bif Nat.blt pc 26 then (bif Nat.blt pc 25 then (bif Nat.beq pc 24 then some (.aload_n 0, 1, 0, 0, 0, mj_u) else none) else
     (bif Nat.beq pc 25 then some (.iconst 5, 1, 0, 0, 0, .int 5) else none)) else
    (bif Nat.blt pc 29 then (bif Nat.beq pc 26 then some (.putfield 27, 3, 10, 2, 906, .int 0) else none) else
     (bif Nat.beq pc 29 then some (.return_, 1, 0, 0, 0, mj_u) else none))))
def m_M_init : mj_M := (111, prog_11_method_2_code, 1, (Option.none : Option Jvm.ClassFile.FieldType), 10, 0, 883, 882, 0, 55, 30, k_M_init)
/-- WatershedMapModel$Land.<init>(II[I)V -/
def k_ML_init : Nat → Option mj_I := fun pc =>
  bif Nat.blt pc 10 then (bif Nat.blt pc 5 then (bif Nat.blt pc 1 then (bif Nat.beq pc 0 then some (.aload_n 0, 1, 0, 0, 0, mj_u) else none) else
    (bif Nat.blt pc 4 then (bif Nat.beq pc 1 then some (.invokespecial 3, 3, 1000, 0, 890, mj_u) else none) else
     (bif Nat.beq pc 4 then some (.aload_n 0, 1, 0, 0, 0, mj_u) else none))) else
   (bif Nat.blt pc 6 then (bif Nat.beq pc 5 then some (.iload_n 1, 1, 1, 0, 0, mj_u) else none) else
    (bif Nat.blt pc 9 then (bif Nat.beq pc 6 then some (.putfield 9, 3, 9, 0, 891, .int 0) else none) else
     (bif Nat.beq pc 9 then some (.aload_n 0, 1, 0, 0, 0, mj_u) else none)))) else
  (bif Nat.blt pc 15 then (bif Nat.blt pc 11 then (bif Nat.beq pc 10 then some (.iload_n 2, 1, 2, 0, 0, mj_u) else none) else
    (bif Nat.blt pc 14 then (bif Nat.beq pc 11 then some (.putfield 15, 3, 9, 1, 893, .int 0) else none) else
     (bif Nat.beq pc 14 then some (.aload_n 0, 1, 0, 0, 0, mj_u) else none))) else
   (bif Nat.blt pc 16 then (bif Nat.beq pc 15 then some (.aload_n 3, 1, 3, 0, 0, mj_u) else none) else
    (bif Nat.blt pc 19 then (bif Nat.beq pc 16 then some (.putfield 18, 3, 9, 2, 895, .null) else none) else
     (bif Nat.beq pc 19 then some (.return_, 1, 0, 0, 0, mj_u) else none))))
def m_ML_init : mj_M := (112, prog_12_method_1_code, 4, (Option.none : Option Jvm.ClassFile.FieldType), 9, 3, 889, 888, 0, 56, 20, k_ML_init)
/-- WatershedMapModel.thrown()I -/
def k_M_thrown : Nat → Option mj_I := fun pc =>
  bif Nat.blt pc 1 then (bif Nat.beq pc 0 then some (.aload_n 0, 1, 0, 0, 0, mj_u) else none) else
  (bif Nat.blt pc 4 then (bif Nat.beq pc 1 then some (.getfield 31, 3, 10, 0, 904, .int 0) else none) else
   (bif Nat.beq pc 4 then some (.ireturn, 1, 0, 0, 0, mj_u) else none))
def m_M_thrown : mj_M := (113, prog_11_method_3_code, 1, (Option.some Jvm.ClassFile.FieldType.int), 10, 0, 917, 915, 916, 55, 5, k_M_thrown)
/-- WatershedMapModel.reset(II)I -/
def k_M_reset : Nat → Option mj_I := fun pc =>
  bif Nat.blt pc 33 then (bif Nat.blt pc 13 then (bif Nat.blt pc 5 then (bif Nat.blt pc 2 then (bif Nat.blt pc 1 then (bif Nat.beq pc 0 then some (.aload_n 0, 1, 0, 0, 0, mj_u) else none) else
      (bif Nat.beq pc 1 then some (.iload_n 1, 1, 1, 0, 0, mj_u) else none)) else
     (bif Nat.blt pc 3 then (bif Nat.beq pc 2 then some (.iconst 2, 1, 0, 0, 0, .int 2) else none) else
      (bif Nat.beq pc 3 then some (.bipush 16, 2, 0, 0, 0, .int 16) else none))) else
    (bif Nat.blt pc 11 then (bif Nat.blt pc 8 then (bif Nat.beq pc 5 then some (.invokestatic 41, 3, 115, 0, 922, mj_u) else none) else
      (bif Nat.beq pc 8 then some (.ifCond .eq 13, 3, 21, 0, 0, mj_u) else none)) else
     (bif Nat.blt pc 12 then (bif Nat.beq pc 11 then some (.iload_n 2, 1, 2, 0, 0, mj_u) else none) else
      (bif Nat.beq pc 12 then some (.iconst 2, 1, 0, 0, 0, .int 2) else none)))) else
   (bif Nat.blt pc 22 then (bif Nat.blt pc 18 then (bif Nat.blt pc 15 then (bif Nat.beq pc 13 then some (.bipush 16, 2, 0, 0, 0, .int 16) else none) else
      (bif Nat.beq pc 15 then some (.invokestatic 41, 3, 115, 0, 922, mj_u) else none)) else
     (bif Nat.blt pc 21 then (bif Nat.beq pc 18 then some (.ifCond .ne 7, 3, 25, 0, 0, mj_u) else none) else
      (bif Nat.beq pc 21 then some (.iconst 1, 1, 0, 0, 0, .int 1) else none))) else
    (bif Nat.blt pc 26 then (bif Nat.blt pc 25 then (bif Nat.beq pc 22 then some (.goto 4, 3, 26, 0, 0, mj_u) else none) else
      (bif Nat.beq pc 25 then some (.iconst 0, 1, 0, 0, 0, .int 0) else none)) else
     (bif Nat.blt pc 27 then (bif Nat.beq pc 26 then some (.iconst 1, 1, 0, 0, 0, .int 1) else none) else
      (bif Nat.blt pc 30 then (bif Nat.beq pc 27 then some (.invokevirtual 52, 3, 116, 0, 925, mj_u) else none) else
       (bif Nat.beq pc 30 then some (.ifCond .eq 5, 3, 35, 0, 0, mj_u) else none)))))) else
  (bif Nat.blt pc 43 then (bif Nat.blt pc 39 then (bif Nat.blt pc 35 then (bif Nat.blt pc 34 then (bif Nat.beq pc 33 then some (.iconst 0, 1, 0, 0, 0, .int 0) else none) else
      (bif Nat.beq pc 34 then some (.ireturn, 1, 0, 0, 0, mj_u) else none)) else
     (bif Nat.blt pc 36 then (bif Nat.beq pc 35 then some (.aload_n 0, 1, 0, 0, 0, mj_u) else none) else
      (bif Nat.beq pc 36 then some (.new 18, 3, 9, 886, 885, mj_u) else none))) else
    (bif Nat.blt pc 41 then (bif Nat.blt pc 40 then (bif Nat.beq pc 39 then some (.dup, 1, 0, 0, 0, mj_u) else none) else
      (bif Nat.beq pc 40 then some (.iload_n 1, 1, 1, 0, 0, mj_u) else none)) else
     (bif Nat.blt pc 42 then (bif Nat.beq pc 41 then some (.iload_n 2, 1, 2, 0, 0, mj_u) else none) else
      (bif Nat.beq pc 42 then some (.iload_n 1, 1, 1, 0, 0, mj_u) else none)))) else
   (bif Nat.blt pc 50 then (bif Nat.blt pc 45 then (bif Nat.blt pc 44 then (bif Nat.beq pc 43 then some (.iload_n 2, 1, 2, 0, 0, mj_u) else none) else
      (bif Nat.beq pc 44 then some (.imul, 1, 0, 0, 0, mj_u) else none)) else
     (bif Nat.blt pc 47 then (bif Nat.beq pc 45 then some (.newarray .int, 2, 0, 0, 0, mj_u) else none) else
      (bif Nat.beq pc 47 then some (.invokespecial 20, 3, 112, 0, 887, mj_u) else none))) else
    (bif Nat.blt pc 54 then (bif Nat.blt pc 53 then (bif Nat.beq pc 50 then some (.putfield 23, 3, 10, 1, 905, .null) else none) else
      (bif Nat.beq pc 53 then some (.iload_n 1, 1, 1, 0, 0, mj_u) else none)) else
     (bif Nat.blt pc 55 then (bif Nat.beq pc 54 then some (.iload_n 2, 1, 2, 0, 0, mj_u) else none) else
      (bif Nat.blt pc 56 then (bif Nat.beq pc 55 then some (.imul, 1, 0, 0, 0, mj_u) else none) else
       (bif Nat.beq pc 56 then some (.ireturn, 1, 0, 0, 0, mj_u) else none))))))
def m_M_reset : mj_M := (114, prog_11_method_12_code, 3, (Option.some Jvm.ClassFile.FieldType.int), 10, 2, 921, 919, 920, 55, 57, k_M_reset)
/-- WatershedMapModel.isIn(III)Z static -/
def k_M_isIn : Nat → Option mj_I := fun pc =>
  bif Nat.blt pc 7 then (bif Nat.blt pc 2 then (bif Nat.blt pc 1 then (bif Nat.beq pc 0 then some (.iload_n 0, 1, 0, 0, 0, mj_u) else none) else
    (bif Nat.beq pc 1 then some (.iload_n 1, 1, 1, 0, 0, mj_u) else none)) else
   (bif Nat.blt pc 5 then (bif Nat.beq pc 2 then some (.if_icmp .lt 12, 3, 14, 0, 0, mj_u) else none) else
    (bif Nat.blt pc 6 then (bif Nat.beq pc 5 then some (.iload_n 0, 1, 0, 0, 0, mj_u) else none) else
     (bif Nat.beq pc 6 then some (.iload_n 2, 1, 2, 0, 0, mj_u) else none)))) else
  (bif Nat.blt pc 11 then (bif Nat.blt pc 10 then (bif Nat.beq pc 7 then some (.if_icmp .gt 7, 3, 14, 0, 0, mj_u) else none) else
    (bif Nat.beq pc 10 then some (.iconst 1, 1, 0, 0, 0, .int 1) else none)) else
   (bif Nat.blt pc 14 then (bif Nat.beq pc 11 then some (.goto 4, 3, 15, 0, 0, mj_u) else none) else
    (bif Nat.blt pc 15 then (bif Nat.beq pc 14 then some (.iconst 0, 1, 0, 0, 0, .int 0) else none) else
     (bif Nat.beq pc 15 then some (.ireturn, 1, 0, 0, 0, mj_u) else none))))
def m_M_isIn : mj_M := (115, prog_11_method_4_code, 3, (Option.some Jvm.ClassFile.FieldType.boolean), 10, 3, 924, 923, 0, 55, 16, k_M_isIn)
/-- WatershedMapModel.start(ZI)Z -/
def k_M_start : Nat → Option mj_I := fun pc =>
  bif Nat.blt pc 6 then (bif Nat.blt pc 2 then (bif Nat.blt pc 1 then (bif Nat.beq pc 0 then some (.aload_n 0, 1, 0, 0, 0, mj_u) else none) else
    (bif Nat.beq pc 1 then some (.iconst 0, 1, 0, 0, 0, .int 0) else none)) else
   (bif Nat.blt pc 5 then (bif Nat.beq pc 2 then some (.putfield 31, 3, 10, 0, 904, .int 0) else none) else
    (bif Nat.beq pc 5 then some (.aload_n 0, 1, 0, 0, 0, mj_u) else none))) else
  (bif Nat.blt pc 8 then (bif Nat.blt pc 7 then (bif Nat.beq pc 6 then some (.iload_n 1, 1, 1, 0, 0, mj_u) else none) else
    (bif Nat.beq pc 7 then some (.iload_n 2, 1, 2, 0, 0, mj_u) else none)) else
   (bif Nat.blt pc 11 then (bif Nat.beq pc 8 then some (.invokevirtual 34, 3, 117, 0, 929, mj_u) else none) else
    (bif Nat.beq pc 11 then some (.ireturn, 1, 0, 0, 0, mj_u) else none)))
def m_M_start : mj_M := (116, prog_11_method_6_code, 3, (Option.some Jvm.ClassFile.FieldType.boolean), 10, 2, 928, 927, 26, 55, 12, k_M_start)
/-- WatershedMapModel.refuse(ZI)Z -/
def k_M_refuse : Nat → Option mj_I := fun pc =>
  bif Nat.blt pc 13 then (bif Nat.blt pc 5 then (bif Nat.blt pc 1 then (bif Nat.beq pc 0 then some (.iload_n 1, 1, 1, 0, 0, mj_u) else none) else
    (bif Nat.blt pc 4 then (bif Nat.beq pc 1 then some (.ifCond .eq 15, 3, 16, 0, 0, mj_u) else none) else
     (bif Nat.beq pc 4 then some (.aload_n 0, 1, 0, 0, 0, mj_u) else none))) else
   (bif Nat.blt pc 11 then (bif Nat.blt pc 8 then (bif Nat.beq pc 5 then some (.getfield 31, 3, 10, 0, 904, .int 0) else none) else
     (bif Nat.beq pc 8 then some (.ifCond .ne 8, 3, 16, 0, 0, mj_u) else none)) else
    (bif Nat.blt pc 12 then (bif Nat.beq pc 11 then some (.aload_n 0, 1, 0, 0, 0, mj_u) else none) else
     (bif Nat.beq pc 12 then some (.iload_n 2, 1, 2, 0, 0, mj_u) else none)))) else
  (bif Nat.blt pc 23 then (bif Nat.blt pc 17 then (bif Nat.blt pc 16 then (bif Nat.beq pc 13 then some (.putfield 31, 3, 10, 0, 904, .int 0) else none) else
     (bif Nat.beq pc 16 then some (.aload_n 0, 1, 0, 0, 0, mj_u) else none)) else
    (bif Nat.blt pc 20 then (bif Nat.beq pc 17 then some (.getfield 31, 3, 10, 0, 904, .int 0) else none) else
     (bif Nat.beq pc 20 then some (.ifCond .le 7, 3, 27, 0, 0, mj_u) else none))) else
   (bif Nat.blt pc 27 then (bif Nat.blt pc 24 then (bif Nat.beq pc 23 then some (.iconst 1, 1, 0, 0, 0, .int 1) else none) else
     (bif Nat.beq pc 24 then some (.goto 4, 3, 28, 0, 0, mj_u) else none)) else
    (bif Nat.blt pc 28 then (bif Nat.beq pc 27 then some (.iconst 0, 1, 0, 0, 0, .int 0) else none) else
     (bif Nat.beq pc 28 then some (.ireturn, 1, 0, 0, 0, mj_u) else none))))
def m_M_refuse : mj_M := (117, prog_11_method_5_code, 3, (Option.some Jvm.ClassFile.FieldType.boolean), 10, 2, 932, 931, 27, 55, 29, k_M_refuse)
/-- WatershedMapModel.set(III)I -/
def k_M_set : Nat → Option mj_I := fun pc =>
  bif Nat.blt pc 36 then (bif Nat.blt pc 18 then (bif Nat.blt pc 9 then (bif Nat.blt pc 2 then (bif Nat.blt pc 1 then (bif Nat.beq pc 0 then some (.aload_n 0, 1, 0, 0, 0, mj_u) else none) else
      (bif Nat.beq pc 1 then some (.iload_n 1, 1, 1, 0, 0, mj_u) else none)) else
     (bif Nat.blt pc 3 then (bif Nat.beq pc 2 then some (.iload_n 2, 1, 2, 0, 0, mj_u) else none) else
      (bif Nat.blt pc 6 then (bif Nat.beq pc 3 then some (.invokevirtual 63, 3, 119, 0, 937, mj_u) else none) else
       (bif Nat.beq pc 6 then some (.ifCond .ne 27, 3, 33, 0, 0, mj_u) else none)))) else
    (bif Nat.blt pc 11 then (bif Nat.blt pc 10 then (bif Nat.beq pc 9 then some (.aload_n 0, 1, 0, 0, 0, mj_u) else none) else
      (bif Nat.beq pc 10 then some (.iload_n 3, 1, 3, 0, 0, mj_u) else none)) else
     (bif Nat.blt pc 12 then (bif Nat.beq pc 11 then some (.iconst 0, 1, 0, 0, 0, .int 0) else none) else
      (bif Nat.blt pc 15 then (bif Nat.beq pc 12 then some (.sipush 999, 3, 0, 0, 0, .int 999) else none) else
       (bif Nat.beq pc 15 then some (.invokestatic 41, 3, 115, 0, 922, mj_u) else none))))) else
   (bif Nat.blt pc 27 then (bif Nat.blt pc 22 then (bif Nat.blt pc 21 then (bif Nat.beq pc 18 then some (.ifCond .ne 7, 3, 25, 0, 0, mj_u) else none) else
      (bif Nat.beq pc 21 then some (.iconst 1, 1, 0, 0, 0, .int 1) else none)) else
     (bif Nat.blt pc 25 then (bif Nat.beq pc 22 then some (.goto 4, 3, 26, 0, 0, mj_u) else none) else
      (bif Nat.blt pc 26 then (bif Nat.beq pc 25 then some (.iconst 0, 1, 0, 0, 0, .int 0) else none) else
       (bif Nat.beq pc 26 then some (.iconst 2, 1, 0, 0, 0, .int 2) else none)))) else
    (bif Nat.blt pc 33 then (bif Nat.blt pc 30 then (bif Nat.beq pc 27 then some (.invokevirtual 34, 3, 117, 0, 929, mj_u) else none) else
      (bif Nat.beq pc 30 then some (.ifCond .eq 5, 3, 35, 0, 0, mj_u) else none)) else
     (bif Nat.blt pc 34 then (bif Nat.beq pc 33 then some (.iconst 0, 1, 0, 0, 0, .int 0) else none) else
      (bif Nat.blt pc 35 then (bif Nat.beq pc 34 then some (.ireturn, 1, 0, 0, 0, mj_u) else none) else
       (bif Nat.beq pc 35 then some (.aload_n 0, 1, 0, 0, 0, mj_u) else none)))))) else
  (bif Nat.blt pc 53 then (bif Nat.blt pc 45 then (bif Nat.blt pc 42 then (bif Nat.blt pc 39 then (bif Nat.beq pc 36 then some (.getfield 23, 3, 10, 1, 905, .null) else none) else
      (bif Nat.beq pc 39 then some (.getfield 55, 3, 9, 2, 896, .null) else none)) else
     (bif Nat.blt pc 43 then (bif Nat.beq pc 42 then some (.aload_n 0, 1, 0, 0, 0, mj_u) else none) else
      (bif Nat.blt pc 44 then (bif Nat.beq pc 43 then some (.iload_n 1, 1, 1, 0, 0, mj_u) else none) else
       (bif Nat.beq pc 44 then some (.iload_n 2, 1, 2, 0, 0, mj_u) else none)))) else
    (bif Nat.blt pc 49 then (bif Nat.blt pc 48 then (bif Nat.beq pc 45 then some (.invokevirtual 66, 3, 121, 0, 945, mj_u) else none) else
      (bif Nat.beq pc 48 then some (.iaload, 1, 0, 0, 0, mj_u) else none)) else
     (bif Nat.blt pc 51 then (bif Nat.beq pc 49 then some (.istore 4, 2, 4, 0, 0, mj_u) else none) else
      (bif Nat.blt pc 52 then (bif Nat.beq pc 51 then some (.aload_n 0, 1, 0, 0, 0, mj_u) else none) else
       (bif Nat.beq pc 52 then some (.aload_n 0, 1, 0, 0, 0, mj_u) else none))))) else
   (bif Nat.blt pc 62 then (bif Nat.blt pc 57 then (bif Nat.blt pc 56 then (bif Nat.beq pc 53 then some (.getfield 23, 3, 10, 1, 905, .null) else none) else
      (bif Nat.beq pc 56 then some (.aload_n 0, 1, 0, 0, 0, mj_u) else none)) else
     (bif Nat.blt pc 58 then (bif Nat.beq pc 57 then some (.iload_n 1, 1, 1, 0, 0, mj_u) else none) else
      (bif Nat.blt pc 59 then (bif Nat.beq pc 58 then some (.iload_n 2, 1, 2, 0, 0, mj_u) else none) else
       (bif Nat.beq pc 59 then some (.invokevirtual 66, 3, 121, 0, 945, mj_u) else none)))) else
    (bif Nat.blt pc 66 then (bif Nat.blt pc 63 then (bif Nat.beq pc 62 then some (.iload_n 3, 1, 3, 0, 0, mj_u) else none) else
      (bif Nat.beq pc 63 then some (.invokevirtual 69, 3, 122, 0, 949, mj_u) else none)) else
     (bif Nat.blt pc 69 then (bif Nat.beq pc 66 then some (.putfield 23, 3, 10, 1, 905, .null) else none) else
      (bif Nat.blt pc 71 then (bif Nat.beq pc 69 then some (.iload 4, 2, 4, 0, 0, mj_u) else none) else
       (bif Nat.beq pc 71 then some (.ireturn, 1, 0, 0, 0, mj_u) else none))))))
def m_M_set : mj_M := (118, prog_11_method_13_code, 5, (Option.some Jvm.ClassFile.FieldType.int), 10, 3, 936, 934, 935, 55, 72, k_M_set)
/-- WatershedMapModel.isNoField(II)Z -/
def k_M_isNoField : Nat → Option mj_I := fun pc =>
  bif Nat.blt pc 4 then (bif Nat.blt pc 2 then (bif Nat.blt pc 1 then (bif Nat.beq pc 0 then some (.aload_n 0, 1, 0, 0, 0, mj_u) else none) else
    (bif Nat.beq pc 1 then some (.aload_n 0, 1, 0, 0, 0, mj_u) else none)) else
   (bif Nat.blt pc 3 then (bif Nat.beq pc 2 then some (.iload_n 1, 1, 1, 0, 0, mj_u) else none) else
    (bif Nat.beq pc 3 then some (.iload_n 2, 1, 2, 0, 0, mj_u) else none))) else
  (bif Nat.blt pc 8 then (bif Nat.blt pc 7 then (bif Nat.beq pc 4 then some (.invokevirtual 48, 3, 120, 0, 941, mj_u) else none) else
    (bif Nat.beq pc 7 then some (.iconst 1, 1, 0, 0, 0, .int 1) else none)) else
   (bif Nat.blt pc 11 then (bif Nat.beq pc 8 then some (.invokevirtual 52, 3, 116, 0, 925, mj_u) else none) else
    (bif Nat.beq pc 11 then some (.ireturn, 1, 0, 0, 0, mj_u) else none)))
def m_M_isNoField : mj_M := (119, prog_11_method_9_code, 3, (Option.some Jvm.ClassFile.FieldType.boolean), 10, 2, 940, 939, 28, 55, 12, k_M_isNoField)
/-- WatershedMapModel.isNo(II)Z -/
def k_M_isNo : Nat → Option mj_I := fun pc =>
  bif Nat.blt pc 19 then (bif Nat.blt pc 9 then (bif Nat.blt pc 2 then (bif Nat.blt pc 1 then (bif Nat.beq pc 0 then some (.iload_n 1, 1, 1, 0, 0, mj_u) else none) else
     (bif Nat.beq pc 1 then some (.iconst 0, 1, 0, 0, 0, .int 0) else none)) else
    (bif Nat.blt pc 3 then (bif Nat.beq pc 2 then some (.aload_n 0, 1, 0, 0, 0, mj_u) else none) else
     (bif Nat.blt pc 6 then (bif Nat.beq pc 3 then some (.getfield 23, 3, 10, 1, 905, .null) else none) else
      (bif Nat.beq pc 6 then some (.getfield 38, 3, 9, 0, 892, .int 0) else none)))) else
   (bif Nat.blt pc 14 then (bif Nat.blt pc 10 then (bif Nat.beq pc 9 then some (.iconst 1, 1, 0, 0, 0, .int 1) else none) else
     (bif Nat.blt pc 11 then (bif Nat.beq pc 10 then some (.isub, 1, 0, 0, 0, mj_u) else none) else
      (bif Nat.beq pc 11 then some (.invokestatic 41, 3, 115, 0, 922, mj_u) else none))) else
    (bif Nat.blt pc 17 then (bif Nat.beq pc 14 then some (.ifCond .eq 20, 3, 34, 0, 0, mj_u) else none) else
     (bif Nat.blt pc 18 then (bif Nat.beq pc 17 then some (.iload_n 2, 1, 2, 0, 0, mj_u) else none) else
      (bif Nat.beq pc 18 then some (.iconst 0, 1, 0, 0, 0, .int 0) else none))))) else
  (bif Nat.blt pc 28 then (bif Nat.blt pc 23 then (bif Nat.blt pc 20 then (bif Nat.beq pc 19 then some (.aload_n 0, 1, 0, 0, 0, mj_u) else none) else
     (bif Nat.beq pc 20 then some (.getfield 23, 3, 10, 1, 905, .null) else none)) else
    (bif Nat.blt pc 26 then (bif Nat.beq pc 23 then some (.getfield 45, 3, 9, 1, 894, .int 0) else none) else
     (bif Nat.blt pc 27 then (bif Nat.beq pc 26 then some (.iconst 1, 1, 0, 0, 0, .int 1) else none) else
      (bif Nat.beq pc 27 then some (.isub, 1, 0, 0, 0, mj_u) else none)))) else
   (bif Nat.blt pc 35 then (bif Nat.blt pc 31 then (bif Nat.beq pc 28 then some (.invokestatic 41, 3, 115, 0, 922, mj_u) else none) else
     (bif Nat.blt pc 34 then (bif Nat.beq pc 31 then some (.ifCond .ne 7, 3, 38, 0, 0, mj_u) else none) else
      (bif Nat.beq pc 34 then some (.iconst 1, 1, 0, 0, 0, .int 1) else none))) else
    (bif Nat.blt pc 38 then (bif Nat.beq pc 35 then some (.goto 4, 3, 39, 0, 0, mj_u) else none) else
     (bif Nat.blt pc 39 then (bif Nat.beq pc 38 then some (.iconst 0, 1, 0, 0, 0, .int 0) else none) else
      (bif Nat.beq pc 39 then some (.ireturn, 1, 0, 0, 0, mj_u) else none)))))
def m_M_isNo : mj_M := (120, prog_11_method_8_code, 3, (Option.some Jvm.ClassFile.FieldType.boolean), 10, 2, 944, 943, 29, 55, 40, k_M_isNo)
/-- WatershedMapModel.number(II)I -/
def k_M_number : Nat → Option mj_I := fun pc =>
  bif Nat.blt pc 8 then (bif Nat.blt pc 2 then (bif Nat.blt pc 1 then (bif Nat.beq pc 0 then some (.iload_n 2, 1, 2, 0, 0, mj_u) else none) else
    (bif Nat.beq pc 1 then some (.aload_n 0, 1, 0, 0, 0, mj_u) else none)) else
   (bif Nat.blt pc 5 then (bif Nat.beq pc 2 then some (.getfield 23, 3, 10, 1, 905, .null) else none) else
    (bif Nat.beq pc 5 then some (.getfield 38, 3, 9, 0, 892, .int 0) else none))) else
  (bif Nat.blt pc 10 then (bif Nat.blt pc 9 then (bif Nat.beq pc 8 then some (.imul, 1, 0, 0, 0, mj_u) else none) else
    (bif Nat.beq pc 9 then some (.iload_n 1, 1, 1, 0, 0, mj_u) else none)) else
   (bif Nat.blt pc 11 then (bif Nat.beq pc 10 then some (.iadd, 1, 0, 0, 0, mj_u) else none) else
    (bif Nat.beq pc 11 then some (.ireturn, 1, 0, 0, 0, mj_u) else none)))
def m_M_number : mj_M := (121, prog_11_method_10_code, 3, (Option.some Jvm.ClassFile.FieldType.int), 10, 2, 948, 947, 30, 55, 12, k_M_number)
/-- WatershedMapModel$Land.with(II)LWatershedMapModel$Land; -/
def k_ML_with : Nat → Option mj_I := fun pc =>
  bif Nat.blt pc 15 then (bif Nat.blt pc 10 then (bif Nat.blt pc 4 then (bif Nat.blt pc 1 then (bif Nat.beq pc 0 then some (.aload_n 0, 1, 0, 0, 0, mj_u) else none) else
     (bif Nat.beq pc 1 then some (.getfield 18, 3, 9, 2, 895, .null) else none)) else
    (bif Nat.blt pc 7 then (bif Nat.beq pc 4 then some (.invokevirtual 28, 3, 1002, 0, 953, mj_u) else none) else
     (bif Nat.beq pc 7 then some (.checkcast 29, 3, 0, 0, 0, mj_u) else none))) else
   (bif Nat.blt pc 12 then (bif Nat.blt pc 11 then (bif Nat.beq pc 10 then some (.astore_n 3, 1, 3, 0, 0, mj_u) else none) else
     (bif Nat.beq pc 11 then some (.aload_n 3, 1, 3, 0, 0, mj_u) else none)) else
    (bif Nat.blt pc 13 then (bif Nat.beq pc 12 then some (.iload_n 1, 1, 1, 0, 0, mj_u) else none) else
     (bif Nat.blt pc 14 then (bif Nat.beq pc 13 then some (.iload_n 2, 1, 2, 0, 0, mj_u) else none) else
      (bif Nat.beq pc 14 then some (.iastore, 1, 0, 0, 0, mj_u) else none))))) else
  (bif Nat.blt pc 23 then (bif Nat.blt pc 19 then (bif Nat.blt pc 18 then (bif Nat.beq pc 15 then some (.new 10, 3, 9, 886, 960, mj_u) else none) else
     (bif Nat.beq pc 18 then some (.dup, 1, 0, 0, 0, mj_u) else none)) else
    (bif Nat.blt pc 20 then (bif Nat.beq pc 19 then some (.aload_n 0, 1, 0, 0, 0, mj_u) else none) else
     (bif Nat.beq pc 20 then some (.getfield 9, 3, 9, 0, 891, .int 0) else none))) else
   (bif Nat.blt pc 27 then (bif Nat.blt pc 24 then (bif Nat.beq pc 23 then some (.aload_n 0, 1, 0, 0, 0, mj_u) else none) else
     (bif Nat.beq pc 24 then some (.getfield 15, 3, 9, 1, 893, .int 0) else none)) else
    (bif Nat.blt pc 28 then (bif Nat.beq pc 27 then some (.aload_n 3, 1, 3, 0, 0, mj_u) else none) else
     (bif Nat.blt pc 31 then (bif Nat.beq pc 28 then some (.invokespecial 33, 3, 112, 0, 961, mj_u) else none) else
      (bif Nat.beq pc 31 then some (.areturn, 1, 0, 0, 0, mj_u) else none)))))
def m_ML_with : mj_M := (122, prog_12_method_5_code, 4, (Option.some (Jvm.ClassFile.FieldType.object "WatershedMapModel$Land")), 9, 2, 952, 950, 951, 56, 32, k_ML_with)
/-- WatershedMapModel.tilt(III)I -/
def k_M_tilt : Nat → Option mj_I := fun pc =>
  bif Nat.blt pc 92 then (bif Nat.blt pc 46 then (bif Nat.blt pc 23 then (bif Nat.blt pc 9 then (bif Nat.blt pc 2 then (bif Nat.blt pc 1 then (bif Nat.beq pc 0 then some (.aload_n 0, 1, 0, 0, 0, mj_u) else none) else
       (bif Nat.beq pc 1 then some (.iload_n 1, 1, 1, 0, 0, mj_u) else none)) else
      (bif Nat.blt pc 4 then (bif Nat.beq pc 2 then some (.bipush (-100), 2, 0, 0, 0, .int (-100)) else none) else
       (bif Nat.blt pc 6 then (bif Nat.beq pc 4 then some (.bipush 100, 2, 0, 0, 0, .int 100) else none) else
        (bif Nat.beq pc 6 then some (.invokestatic 41, 3, 115, 0, 922, mj_u) else none)))) else
     (bif Nat.blt pc 15 then (bif Nat.blt pc 12 then (bif Nat.beq pc 9 then some (.ifCond .eq 25, 3, 34, 0, 0, mj_u) else none) else
       (bif Nat.blt pc 13 then (bif Nat.beq pc 12 then some (.iload_n 2, 1, 2, 0, 0, mj_u) else none) else
        (bif Nat.beq pc 13 then some (.bipush (-100), 2, 0, 0, 0, .int (-100)) else none))) else
      (bif Nat.blt pc 17 then (bif Nat.beq pc 15 then some (.bipush 100, 2, 0, 0, 0, .int 100) else none) else
       (bif Nat.blt pc 20 then (bif Nat.beq pc 17 then some (.invokestatic 41, 3, 115, 0, 922, mj_u) else none) else
        (bif Nat.beq pc 20 then some (.ifCond .eq 14, 3, 34, 0, 0, mj_u) else none))))) else
    (bif Nat.blt pc 34 then (bif Nat.blt pc 26 then (bif Nat.blt pc 24 then (bif Nat.beq pc 23 then some (.iload_n 3, 1, 3, 0, 0, mj_u) else none) else
       (bif Nat.beq pc 24 then some (.bipush (-100), 2, 0, 0, 0, .int (-100)) else none)) else
      (bif Nat.blt pc 28 then (bif Nat.beq pc 26 then some (.bipush 100, 2, 0, 0, 0, .int 100) else none) else
       (bif Nat.blt pc 31 then (bif Nat.beq pc 28 then some (.invokestatic 41, 3, 115, 0, 922, mj_u) else none) else
        (bif Nat.beq pc 31 then some (.ifCond .ne 7, 3, 38, 0, 0, mj_u) else none)))) else
     (bif Nat.blt pc 39 then (bif Nat.blt pc 35 then (bif Nat.beq pc 34 then some (.iconst 1, 1, 0, 0, 0, .int 1) else none) else
       (bif Nat.blt pc 38 then (bif Nat.beq pc 35 then some (.goto 4, 3, 39, 0, 0, mj_u) else none) else
        (bif Nat.beq pc 38 then some (.iconst 0, 1, 0, 0, 0, .int 0) else none))) else
      (bif Nat.blt pc 40 then (bif Nat.beq pc 39 then some (.iconst 1, 1, 0, 0, 0, .int 1) else none) else
       (bif Nat.blt pc 43 then (bif Nat.beq pc 40 then some (.invokevirtual 52, 3, 116, 0, 925, mj_u) else none) else
        (bif Nat.beq pc 43 then some (.ifCond .eq 5, 3, 48, 0, 0, mj_u) else none)))))) else
   (bif Nat.blt pc 68 then (bif Nat.blt pc 55 then (bif Nat.blt pc 48 then (bif Nat.blt pc 47 then (bif Nat.beq pc 46 then some (.iconst 0, 1, 0, 0, 0, .int 0) else none) else
       (bif Nat.beq pc 47 then some (.ireturn, 1, 0, 0, 0, mj_u) else none)) else
      (bif Nat.blt pc 49 then (bif Nat.beq pc 48 then some (.aload_n 0, 1, 0, 0, 0, mj_u) else none) else
       (bif Nat.blt pc 52 then (bif Nat.beq pc 49 then some (.getfield 23, 3, 10, 1, 905, .null) else none) else
        (bif Nat.beq pc 52 then some (.getfield 55, 3, 9, 2, 896, .null) else none)))) else
     (bif Nat.blt pc 63 then (bif Nat.blt pc 58 then (bif Nat.beq pc 55 then some (.invokevirtual 73, 3, 1002, 0, 966, mj_u) else none) else
       (bif Nat.blt pc 61 then (bif Nat.beq pc 58 then some (.checkcast 74, 3, 0, 0, 0, mj_u) else none) else
        (bif Nat.beq pc 61 then some (.astore 4, 2, 4, 0, 0, mj_u) else none))) else
      (bif Nat.blt pc 64 then (bif Nat.beq pc 63 then some (.iconst 0, 1, 0, 0, 0, .int 0) else none) else
       (bif Nat.blt pc 66 then (bif Nat.beq pc 64 then some (.istore 5, 2, 5, 0, 0, mj_u) else none) else
        (bif Nat.beq pc 66 then some (.iload 5, 2, 5, 0, 0, mj_u) else none))))) else
    (bif Nat.blt pc 80 then (bif Nat.blt pc 74 then (bif Nat.blt pc 70 then (bif Nat.beq pc 68 then some (.aload 4, 2, 4, 0, 0, mj_u) else none) else
       (bif Nat.blt pc 71 then (bif Nat.beq pc 70 then some (.arraylength, 1, 0, 0, 0, mj_u) else none) else
        (bif Nat.beq pc 71 then some (.if_icmp .ge 81, 3, 152, 0, 0, mj_u) else none))) else
      (bif Nat.blt pc 76 then (bif Nat.beq pc 74 then some (.iload 5, 2, 5, 0, 0, mj_u) else none) else
       (bif Nat.blt pc 77 then (bif Nat.beq pc 76 then some (.aload_n 0, 1, 0, 0, 0, mj_u) else none) else
        (bif Nat.beq pc 77 then some (.getfield 23, 3, 10, 1, 905, .null) else none)))) else
     (bif Nat.blt pc 86 then (bif Nat.blt pc 83 then (bif Nat.beq pc 80 then some (.getfield 38, 3, 9, 0, 892, .int 0) else none) else
       (bif Nat.blt pc 84 then (bif Nat.beq pc 83 then some (.irem, 1, 0, 0, 0, mj_u) else none) else
        (bif Nat.beq pc 84 then some (.istore 6, 2, 6, 0, 0, mj_u) else none))) else
      (bif Nat.blt pc 88 then (bif Nat.beq pc 86 then some (.iload 5, 2, 5, 0, 0, mj_u) else none) else
       (bif Nat.blt pc 89 then (bif Nat.beq pc 88 then some (.aload_n 0, 1, 0, 0, 0, mj_u) else none) else
        (bif Nat.beq pc 89 then some (.getfield 23, 3, 10, 1, 905, .null) else none))))))) else
  (bif Nat.blt pc 128 then (bif Nat.blt pc 111 then (bif Nat.blt pc 102 then (bif Nat.blt pc 96 then (bif Nat.blt pc 95 then (bif Nat.beq pc 92 then some (.getfield 38, 3, 9, 0, 892, .int 0) else none) else
       (bif Nat.beq pc 95 then some (.idiv, 1, 0, 0, 0, mj_u) else none)) else
      (bif Nat.blt pc 98 then (bif Nat.beq pc 96 then some (.istore 7, 2, 7, 0, 0, mj_u) else none) else
       (bif Nat.blt pc 100 then (bif Nat.beq pc 98 then some (.aload 4, 2, 4, 0, 0, mj_u) else none) else
        (bif Nat.beq pc 100 then some (.iload 5, 2, 5, 0, 0, mj_u) else none)))) else
     (bif Nat.blt pc 107 then (bif Nat.blt pc 104 then (bif Nat.beq pc 102 then some (.aload 4, 2, 4, 0, 0, mj_u) else none) else
       (bif Nat.blt pc 106 then (bif Nat.beq pc 104 then some (.iload 5, 2, 5, 0, 0, mj_u) else none) else
        (bif Nat.beq pc 106 then some (.iaload, 1, 0, 0, 0, mj_u) else none))) else
      (bif Nat.blt pc 108 then (bif Nat.beq pc 107 then some (.iload_n 1, 1, 1, 0, 0, mj_u) else none) else
       (bif Nat.blt pc 110 then (bif Nat.beq pc 108 then some (.iload 6, 2, 6, 0, 0, mj_u) else none) else
        (bif Nat.beq pc 110 then some (.imul, 1, 0, 0, 0, mj_u) else none))))) else
    (bif Nat.blt pc 119 then (bif Nat.blt pc 115 then (bif Nat.blt pc 112 then (bif Nat.beq pc 111 then some (.iadd, 1, 0, 0, 0, mj_u) else none) else
       (bif Nat.blt pc 113 then (bif Nat.beq pc 112 then some (.iload_n 2, 1, 2, 0, 0, mj_u) else none) else
        (bif Nat.beq pc 113 then some (.iload 7, 2, 7, 0, 0, mj_u) else none))) else
      (bif Nat.blt pc 116 then (bif Nat.beq pc 115 then some (.imul, 1, 0, 0, 0, mj_u) else none) else
       (bif Nat.blt pc 117 then (bif Nat.beq pc 116 then some (.iadd, 1, 0, 0, 0, mj_u) else none) else
        (bif Nat.beq pc 117 then some (.iload 6, 2, 6, 0, 0, mj_u) else none)))) else
     (bif Nat.blt pc 124 then (bif Nat.blt pc 121 then (bif Nat.beq pc 119 then some (.bipush 7, 2, 0, 0, 0, .int 7) else none) else
       (bif Nat.blt pc 122 then (bif Nat.beq pc 121 then some (.imul, 1, 0, 0, 0, mj_u) else none) else
        (bif Nat.beq pc 122 then some (.iload 7, 2, 7, 0, 0, mj_u) else none))) else
      (bif Nat.blt pc 126 then (bif Nat.beq pc 124 then some (.bipush 13, 2, 0, 0, 0, .int 13) else none) else
       (bif Nat.blt pc 127 then (bif Nat.beq pc 126 then some (.imul, 1, 0, 0, 0, mj_u) else none) else
        (bif Nat.beq pc 127 then some (.iadd, 1, 0, 0, 0, mj_u) else none)))))) else
   (bif Nat.blt pc 142 then (bif Nat.blt pc 135 then (bif Nat.blt pc 132 then (bif Nat.blt pc 130 then (bif Nat.beq pc 128 then some (.iload 6, 2, 6, 0, 0, mj_u) else none) else
       (bif Nat.beq pc 130 then some (.iload 7, 2, 7, 0, 0, mj_u) else none)) else
      (bif Nat.blt pc 133 then (bif Nat.beq pc 132 then some (.imul, 1, 0, 0, 0, mj_u) else none) else
       (bif Nat.blt pc 134 then (bif Nat.beq pc 133 then some (.iconst 5, 1, 0, 0, 0, .int 5) else none) else
        (bif Nat.beq pc 134 then some (.imul, 1, 0, 0, 0, mj_u) else none)))) else
     (bif Nat.blt pc 139 then (bif Nat.blt pc 136 then (bif Nat.beq pc 135 then some (.iadd, 1, 0, 0, 0, mj_u) else none) else
       (bif Nat.blt pc 138 then (bif Nat.beq pc 136 then some (.bipush 17, 2, 0, 0, 0, .int 17) else none) else
        (bif Nat.beq pc 138 then some (.irem, 1, 0, 0, 0, mj_u) else none))) else
      (bif Nat.blt pc 140 then (bif Nat.beq pc 139 then some (.iload_n 3, 1, 3, 0, 0, mj_u) else none) else
       (bif Nat.blt pc 141 then (bif Nat.beq pc 140 then some (.imul, 1, 0, 0, 0, mj_u) else none) else
        (bif Nat.beq pc 141 then some (.iadd, 1, 0, 0, 0, mj_u) else none))))) else
    (bif Nat.blt pc 155 then (bif Nat.blt pc 149 then (bif Nat.blt pc 145 then (bif Nat.beq pc 142 then some (.invokestatic 78, 3, 124, 0, 968, mj_u) else none) else
       (bif Nat.blt pc 146 then (bif Nat.beq pc 145 then some (.iastore, 1, 0, 0, 0, mj_u) else none) else
        (bif Nat.beq pc 146 then some (.iinc 5 1, 3, 5, 0, 0, .int 1) else none))) else
      (bif Nat.blt pc 152 then (bif Nat.beq pc 149 then some (.goto (-83), 3, 66, 0, 0, mj_u) else none) else
       (bif Nat.blt pc 153 then (bif Nat.beq pc 152 then some (.aload_n 0, 1, 0, 0, 0, mj_u) else none) else
        (bif Nat.beq pc 153 then some (.aload 4, 2, 4, 0, 0, mj_u) else none)))) else
     (bif Nat.blt pc 160 then (bif Nat.blt pc 158 then (bif Nat.beq pc 155 then some (.invokevirtual 82, 3, 125, 0, 973, mj_u) else none) else
       (bif Nat.blt pc 159 then (bif Nat.beq pc 158 then some (.pop, 1, 0, 0, 0, mj_u) else none) else
        (bif Nat.beq pc 159 then some (.aload_n 0, 1, 0, 0, 0, mj_u) else none))) else
      (bif Nat.blt pc 163 then (bif Nat.beq pc 160 then some (.getfield 23, 3, 10, 1, 905, .null) else none) else
       (bif Nat.blt pc 166 then (bif Nat.beq pc 163 then some (.invokevirtual 85, 3, 128, 0, 985, mj_u) else none) else
        (bif Nat.beq pc 166 then some (.ireturn, 1, 0, 0, 0, mj_u) else none)))))))
def m_M_tilt : mj_M := (123, prog_11_method_14_code, 8, (Option.some Jvm.ClassFile.FieldType.int), 10, 3, 965, 963, 964, 55, 167, k_M_tilt)
/-- WatershedMapModel.bound(I)I static -/
def k_M_bound : Nat → Option mj_I := fun pc =>
  bif Nat.blt pc 5 then (bif Nat.blt pc 1 then (bif Nat.beq pc 0 then some (.iconst 0, 1, 0, 0, 0, .int 0) else none) else
   (bif Nat.blt pc 4 then (bif Nat.beq pc 1 then some (.sipush 999, 3, 0, 0, 0, .int 999) else none) else
    (bif Nat.beq pc 4 then some (.iload_n 0, 1, 0, 0, 0, mj_u) else none))) else
  (bif Nat.blt pc 8 then (bif Nat.beq pc 5 then some (.invokestatic 3, 3, 59, 0, 971, mj_u) else none) else
   (bif Nat.blt pc 11 then (bif Nat.beq pc 8 then some (.invokestatic 9, 3, 26, 0, 972, mj_u) else none) else
    (bif Nat.beq pc 11 then some (.ireturn, 1, 0, 0, 0, mj_u) else none)))
def m_M_bound : mj_M := (124, prog_11_method_1_code, 1, (Option.some Jvm.ClassFile.FieldType.int), 10, 1, 970, 969, 0, 55, 12, k_M_bound)
/-- WatershedMapModel.take([I)I -/
def k_M_take : Nat → Option mj_I := fun pc =>
  bif Nat.blt pc 20 then (bif Nat.blt pc 9 then (bif Nat.blt pc 4 then (bif Nat.blt pc 1 then (bif Nat.beq pc 0 then some (.aload_n 0, 1, 0, 0, 0, mj_u) else none) else
     (bif Nat.beq pc 1 then some (.getfield 23, 3, 10, 1, 905, .null) else none)) else
    (bif Nat.blt pc 7 then (bif Nat.beq pc 4 then some (.getfield 55, 3, 9, 2, 896, .null) else none) else
     (bif Nat.blt pc 8 then (bif Nat.beq pc 7 then some (.astore_n 2, 1, 2, 0, 0, mj_u) else none) else
      (bif Nat.beq pc 8 then some (.aload_n 0, 1, 0, 0, 0, mj_u) else none)))) else
   (bif Nat.blt pc 13 then (bif Nat.blt pc 12 then (bif Nat.beq pc 9 then some (.new 18, 3, 9, 886, 885, mj_u) else none) else
     (bif Nat.beq pc 12 then some (.dup, 1, 0, 0, 0, mj_u) else none)) else
    (bif Nat.blt pc 14 then (bif Nat.beq pc 13 then some (.aload_n 0, 1, 0, 0, 0, mj_u) else none) else
     (bif Nat.blt pc 17 then (bif Nat.beq pc 14 then some (.getfield 23, 3, 10, 1, 905, .null) else none) else
      (bif Nat.beq pc 17 then some (.getfield 38, 3, 9, 0, 892, .int 0) else none))))) else
  (bif Nat.blt pc 31 then (bif Nat.blt pc 24 then (bif Nat.blt pc 21 then (bif Nat.beq pc 20 then some (.aload_n 0, 1, 0, 0, 0, mj_u) else none) else
     (bif Nat.beq pc 21 then some (.getfield 23, 3, 10, 1, 905, .null) else none)) else
    (bif Nat.blt pc 27 then (bif Nat.beq pc 24 then some (.getfield 45, 3, 9, 1, 894, .int 0) else none) else
     (bif Nat.blt pc 28 then (bif Nat.beq pc 27 then some (.aload_n 1, 1, 1, 0, 0, mj_u) else none) else
      (bif Nat.beq pc 28 then some (.invokespecial 20, 3, 112, 0, 887, mj_u) else none)))) else
   (bif Nat.blt pc 38 then (bif Nat.blt pc 34 then (bif Nat.beq pc 31 then some (.putfield 23, 3, 10, 1, 905, .null) else none) else
     (bif Nat.blt pc 35 then (bif Nat.beq pc 34 then some (.aload_n 0, 1, 0, 0, 0, mj_u) else none) else
      (bif Nat.beq pc 35 then some (.getfield 23, 3, 10, 1, 905, .null) else none))) else
    (bif Nat.blt pc 39 then (bif Nat.beq pc 38 then some (.aload_n 2, 1, 2, 0, 0, mj_u) else none) else
     (bif Nat.blt pc 42 then (bif Nat.beq pc 39 then some (.invokevirtual 59, 3, 126, 0, 977, mj_u) else none) else
      (bif Nat.beq pc 42 then some (.ireturn, 1, 0, 0, 0, mj_u) else none)))))
def m_M_take : mj_M := (125, prog_11_method_11_code, 3, (Option.some Jvm.ClassFile.FieldType.int), 10, 1, 976, 975, 31, 55, 43, k_M_take)
/-- WatershedMapModel$Land.others([I)I -/
def k_ML_others : Nat → Option mj_I := fun pc =>
  bif Nat.blt pc 19 then (bif Nat.blt pc 6 then (bif Nat.blt pc 3 then (bif Nat.blt pc 1 then (bif Nat.beq pc 0 then some (.iconst 0, 1, 0, 0, 0, .int 0) else none) else
     (bif Nat.blt pc 2 then (bif Nat.beq pc 1 then some (.istore_n 2, 1, 2, 0, 0, mj_u) else none) else
      (bif Nat.beq pc 2 then some (.iconst 0, 1, 0, 0, 0, .int 0) else none))) else
    (bif Nat.blt pc 4 then (bif Nat.beq pc 3 then some (.istore_n 3, 1, 3, 0, 0, mj_u) else none) else
     (bif Nat.blt pc 5 then (bif Nat.beq pc 4 then some (.iload_n 3, 1, 3, 0, 0, mj_u) else none) else
      (bif Nat.beq pc 5 then some (.aload_n 0, 1, 0, 0, 0, mj_u) else none)))) else
   (bif Nat.blt pc 13 then (bif Nat.blt pc 9 then (bif Nat.beq pc 6 then some (.invokevirtual 45, 3, 127, 0, 981, mj_u) else none) else
     (bif Nat.blt pc 12 then (bif Nat.beq pc 9 then some (.if_icmp .ge 29, 3, 38, 0, 0, mj_u) else none) else
      (bif Nat.beq pc 12 then some (.iload_n 2, 1, 2, 0, 0, mj_u) else none))) else
    (bif Nat.blt pc 17 then (bif Nat.blt pc 14 then (bif Nat.beq pc 13 then some (.aload_n 0, 1, 0, 0, 0, mj_u) else none) else
      (bif Nat.beq pc 14 then some (.getfield 18, 3, 9, 2, 895, .null) else none)) else
     (bif Nat.blt pc 18 then (bif Nat.beq pc 17 then some (.iload_n 3, 1, 3, 0, 0, mj_u) else none) else
      (bif Nat.beq pc 18 then some (.iaload, 1, 0, 0, 0, mj_u) else none))))) else
  (bif Nat.blt pc 29 then (bif Nat.blt pc 22 then (bif Nat.blt pc 20 then (bif Nat.beq pc 19 then some (.aload_n 1, 1, 1, 0, 0, mj_u) else none) else
     (bif Nat.blt pc 21 then (bif Nat.beq pc 20 then some (.iload_n 3, 1, 3, 0, 0, mj_u) else none) else
      (bif Nat.beq pc 21 then some (.iaload, 1, 0, 0, 0, mj_u) else none))) else
    (bif Nat.blt pc 25 then (bif Nat.beq pc 22 then some (.if_icmp .eq 7, 3, 29, 0, 0, mj_u) else none) else
     (bif Nat.blt pc 26 then (bif Nat.beq pc 25 then some (.iconst 1, 1, 0, 0, 0, .int 1) else none) else
      (bif Nat.beq pc 26 then some (.goto 4, 3, 30, 0, 0, mj_u) else none)))) else
   (bif Nat.blt pc 32 then (bif Nat.blt pc 30 then (bif Nat.beq pc 29 then some (.iconst 0, 1, 0, 0, 0, .int 0) else none) else
     (bif Nat.blt pc 31 then (bif Nat.beq pc 30 then some (.iadd, 1, 0, 0, 0, mj_u) else none) else
      (bif Nat.beq pc 31 then some (.istore_n 2, 1, 2, 0, 0, mj_u) else none))) else
    (bif Nat.blt pc 38 then (bif Nat.blt pc 35 then (bif Nat.beq pc 32 then some (.iinc 3 1, 3, 3, 0, 0, .int 1) else none) else
      (bif Nat.beq pc 35 then some (.goto (-31), 3, 4, 0, 0, mj_u) else none)) else
     (bif Nat.blt pc 39 then (bif Nat.beq pc 38 then some (.iload_n 2, 1, 2, 0, 0, mj_u) else none) else
      (bif Nat.beq pc 39 then some (.ireturn, 1, 0, 0, 0, mj_u) else none)))))
def m_ML_others : mj_M := (126, prog_12_method_9_code, 4, (Option.some Jvm.ClassFile.FieldType.int), 9, 1, 980, 978, 979, 56, 40, k_ML_others)
/-- WatershedMapModel$Land.size()I -/
def k_ML_size : Nat → Option mj_I := fun pc =>
  bif Nat.blt pc 4 then (bif Nat.blt pc 1 then (bif Nat.beq pc 0 then some (.aload_n 0, 1, 0, 0, 0, mj_u) else none) else
   (bif Nat.beq pc 1 then some (.getfield 18, 3, 9, 2, 895, .null) else none)) else
  (bif Nat.blt pc 5 then (bif Nat.beq pc 4 then some (.arraylength, 1, 0, 0, 0, mj_u) else none) else
   (bif Nat.beq pc 5 then some (.ireturn, 1, 0, 0, 0, mj_u) else none))
def m_ML_size : mj_M := (127, prog_12_method_2_code, 1, (Option.some Jvm.ClassFile.FieldType.int), 9, 0, 984, 982, 983, 56, 6, k_ML_size)
/-- WatershedMapModel$Land.greatest()I -/
def k_ML_greatest : Nat → Option mj_I := fun pc =>
  bif Nat.blt pc 16 then (bif Nat.blt pc 8 then (bif Nat.blt pc 3 then (bif Nat.blt pc 1 then (bif Nat.beq pc 0 then some (.iconst 0, 1, 0, 0, 0, .int 0) else none) else
     (bif Nat.blt pc 2 then (bif Nat.beq pc 1 then some (.istore_n 1, 1, 1, 0, 0, mj_u) else none) else
      (bif Nat.beq pc 2 then some (.aload_n 0, 1, 0, 0, 0, mj_u) else none))) else
    (bif Nat.blt pc 6 then (bif Nat.beq pc 3 then some (.getfield 18, 3, 9, 2, 895, .null) else none) else
     (bif Nat.blt pc 7 then (bif Nat.beq pc 6 then some (.astore_n 2, 1, 2, 0, 0, mj_u) else none) else
      (bif Nat.beq pc 7 then some (.aload_n 2, 1, 2, 0, 0, mj_u) else none)))) else
   (bif Nat.blt pc 11 then (bif Nat.blt pc 9 then (bif Nat.beq pc 8 then some (.arraylength, 1, 0, 0, 0, mj_u) else none) else
     (bif Nat.blt pc 10 then (bif Nat.beq pc 9 then some (.istore_n 3, 1, 3, 0, 0, mj_u) else none) else
      (bif Nat.beq pc 10 then some (.iconst 0, 1, 0, 0, 0, .int 0) else none))) else
    (bif Nat.blt pc 13 then (bif Nat.beq pc 11 then some (.istore 4, 2, 4, 0, 0, mj_u) else none) else
     (bif Nat.blt pc 15 then (bif Nat.beq pc 13 then some (.iload 4, 2, 4, 0, 0, mj_u) else none) else
      (bif Nat.beq pc 15 then some (.iload_n 3, 1, 3, 0, 0, mj_u) else none))))) else
  (bif Nat.blt pc 26 then (bif Nat.blt pc 22 then (bif Nat.blt pc 19 then (bif Nat.beq pc 16 then some (.if_icmp .ge 22, 3, 38, 0, 0, mj_u) else none) else
     (bif Nat.blt pc 20 then (bif Nat.beq pc 19 then some (.aload_n 2, 1, 2, 0, 0, mj_u) else none) else
      (bif Nat.beq pc 20 then some (.iload 4, 2, 4, 0, 0, mj_u) else none))) else
    (bif Nat.blt pc 23 then (bif Nat.beq pc 22 then some (.iaload, 1, 0, 0, 0, mj_u) else none) else
     (bif Nat.blt pc 25 then (bif Nat.beq pc 23 then some (.istore 5, 2, 5, 0, 0, mj_u) else none) else
      (bif Nat.beq pc 25 then some (.iload_n 1, 1, 1, 0, 0, mj_u) else none)))) else
   (bif Nat.blt pc 32 then (bif Nat.blt pc 28 then (bif Nat.beq pc 26 then some (.iload 5, 2, 5, 0, 0, mj_u) else none) else
     (bif Nat.blt pc 31 then (bif Nat.beq pc 28 then some (.invokestatic 42, 3, 26, 0, 989, mj_u) else none) else
      (bif Nat.beq pc 31 then some (.istore_n 1, 1, 1, 0, 0, mj_u) else none))) else
    (bif Nat.blt pc 38 then (bif Nat.blt pc 35 then (bif Nat.beq pc 32 then some (.iinc 4 1, 3, 4, 0, 0, .int 1) else none) else
      (bif Nat.beq pc 35 then some (.goto (-22), 3, 13, 0, 0, mj_u) else none)) else
     (bif Nat.blt pc 39 then (bif Nat.beq pc 38 then some (.iload_n 1, 1, 1, 0, 0, mj_u) else none) else
      (bif Nat.beq pc 39 then some (.ireturn, 1, 0, 0, 0, mj_u) else none)))))
def m_ML_greatest : mj_M := (128, prog_12_method_7_code, 6, (Option.some Jvm.ClassFile.FieldType.int), 9, 0, 988, 986, 987, 56, 40, k_ML_greatest)
/-- WatershedMapModel.hill(IIII)I -/
def k_M_hill : Nat → Option mj_I := fun pc =>
  bif Nat.blt pc 90 then (bif Nat.blt pc 46 then (bif Nat.blt pc 20 then (bif Nat.blt pc 9 then (bif Nat.blt pc 2 then (bif Nat.blt pc 1 then (bif Nat.beq pc 0 then some (.aload_n 0, 1, 0, 0, 0, mj_u) else none) else
       (bif Nat.beq pc 1 then some (.iload_n 1, 1, 1, 0, 0, mj_u) else none)) else
      (bif Nat.blt pc 3 then (bif Nat.beq pc 2 then some (.iload_n 2, 1, 2, 0, 0, mj_u) else none) else
       (bif Nat.blt pc 6 then (bif Nat.beq pc 3 then some (.invokevirtual 63, 3, 119, 0, 937, mj_u) else none) else
        (bif Nat.beq pc 6 then some (.ifCond .ne 40, 3, 46, 0, 0, mj_u) else none)))) else
     (bif Nat.blt pc 12 then (bif Nat.blt pc 10 then (bif Nat.beq pc 9 then some (.aload_n 0, 1, 0, 0, 0, mj_u) else none) else
       (bif Nat.blt pc 11 then (bif Nat.beq pc 10 then some (.iload_n 3, 1, 3, 0, 0, mj_u) else none) else
        (bif Nat.beq pc 11 then some (.iconst 0, 1, 0, 0, 0, .int 0) else none))) else
      (bif Nat.blt pc 14 then (bif Nat.beq pc 12 then some (.bipush 8, 2, 0, 0, 0, .int 8) else none) else
       (bif Nat.blt pc 17 then (bif Nat.beq pc 14 then some (.invokestatic 41, 3, 115, 0, 922, mj_u) else none) else
        (bif Nat.beq pc 17 then some (.ifCond .eq 17, 3, 34, 0, 0, mj_u) else none))))) else
    (bif Nat.blt pc 34 then (bif Nat.blt pc 25 then (bif Nat.blt pc 22 then (bif Nat.beq pc 20 then some (.iload 4, 2, 4, 0, 0, mj_u) else none) else
       (bif Nat.beq pc 22 then some (.sipush (-500), 3, 0, 0, 0, .int (-500)) else none)) else
      (bif Nat.blt pc 28 then (bif Nat.beq pc 25 then some (.sipush 500, 3, 0, 0, 0, .int 500) else none) else
       (bif Nat.blt pc 31 then (bif Nat.beq pc 28 then some (.invokestatic 41, 3, 115, 0, 922, mj_u) else none) else
        (bif Nat.beq pc 31 then some (.ifCond .ne 7, 3, 38, 0, 0, mj_u) else none)))) else
     (bif Nat.blt pc 39 then (bif Nat.blt pc 35 then (bif Nat.beq pc 34 then some (.iconst 1, 1, 0, 0, 0, .int 1) else none) else
       (bif Nat.blt pc 38 then (bif Nat.beq pc 35 then some (.goto 4, 3, 39, 0, 0, mj_u) else none) else
        (bif Nat.beq pc 38 then some (.iconst 0, 1, 0, 0, 0, .int 0) else none))) else
      (bif Nat.blt pc 40 then (bif Nat.beq pc 39 then some (.iconst 2, 1, 0, 0, 0, .int 2) else none) else
       (bif Nat.blt pc 43 then (bif Nat.beq pc 40 then some (.invokevirtual 34, 3, 117, 0, 929, mj_u) else none) else
        (bif Nat.beq pc 43 then some (.ifCond .eq 5, 3, 48, 0, 0, mj_u) else none)))))) else
   (bif Nat.blt pc 68 then (bif Nat.blt pc 55 then (bif Nat.blt pc 48 then (bif Nat.blt pc 47 then (bif Nat.beq pc 46 then some (.iconst 0, 1, 0, 0, 0, .int 0) else none) else
       (bif Nat.beq pc 47 then some (.ireturn, 1, 0, 0, 0, mj_u) else none)) else
      (bif Nat.blt pc 49 then (bif Nat.beq pc 48 then some (.aload_n 0, 1, 0, 0, 0, mj_u) else none) else
       (bif Nat.blt pc 52 then (bif Nat.beq pc 49 then some (.getfield 23, 3, 10, 1, 905, .null) else none) else
        (bif Nat.beq pc 52 then some (.getfield 55, 3, 9, 2, 896, .null) else none)))) else
     (bif Nat.blt pc 63 then (bif Nat.blt pc 58 then (bif Nat.beq pc 55 then some (.invokevirtual 73, 3, 1002, 0, 966, mj_u) else none) else
       (bif Nat.blt pc 61 then (bif Nat.beq pc 58 then some (.checkcast 74, 3, 0, 0, 0, mj_u) else none) else
        (bif Nat.beq pc 61 then some (.astore 5, 2, 5, 0, 0, mj_u) else none))) else
      (bif Nat.blt pc 64 then (bif Nat.beq pc 63 then some (.iconst 0, 1, 0, 0, 0, .int 0) else none) else
       (bif Nat.blt pc 66 then (bif Nat.beq pc 64 then some (.istore 6, 2, 6, 0, 0, mj_u) else none) else
        (bif Nat.beq pc 66 then some (.iload 6, 2, 6, 0, 0, mj_u) else none))))) else
    (bif Nat.blt pc 80 then (bif Nat.blt pc 74 then (bif Nat.blt pc 70 then (bif Nat.beq pc 68 then some (.aload 5, 2, 5, 0, 0, mj_u) else none) else
       (bif Nat.blt pc 71 then (bif Nat.beq pc 70 then some (.arraylength, 1, 0, 0, 0, mj_u) else none) else
        (bif Nat.beq pc 71 then some (.if_icmp .ge 86, 3, 157, 0, 0, mj_u) else none))) else
      (bif Nat.blt pc 76 then (bif Nat.beq pc 74 then some (.iload 6, 2, 6, 0, 0, mj_u) else none) else
       (bif Nat.blt pc 77 then (bif Nat.beq pc 76 then some (.aload_n 0, 1, 0, 0, 0, mj_u) else none) else
        (bif Nat.beq pc 77 then some (.getfield 23, 3, 10, 1, 905, .null) else none)))) else
     (bif Nat.blt pc 85 then (bif Nat.blt pc 83 then (bif Nat.beq pc 80 then some (.getfield 38, 3, 9, 0, 892, .int 0) else none) else
       (bif Nat.blt pc 84 then (bif Nat.beq pc 83 then some (.irem, 1, 0, 0, 0, mj_u) else none) else
        (bif Nat.beq pc 84 then some (.iload_n 1, 1, 1, 0, 0, mj_u) else none))) else
      (bif Nat.blt pc 86 then (bif Nat.beq pc 85 then some (.isub, 1, 0, 0, 0, mj_u) else none) else
       (bif Nat.blt pc 88 then (bif Nat.beq pc 86 then some (.istore 7, 2, 7, 0, 0, mj_u) else none) else
        (bif Nat.beq pc 88 then some (.iload 6, 2, 6, 0, 0, mj_u) else none))))))) else
  (bif Nat.blt pc 127 then (bif Nat.blt pc 109 then (bif Nat.blt pc 99 then (bif Nat.blt pc 94 then (bif Nat.blt pc 91 then (bif Nat.beq pc 90 then some (.aload_n 0, 1, 0, 0, 0, mj_u) else none) else
       (bif Nat.beq pc 91 then some (.getfield 23, 3, 10, 1, 905, .null) else none)) else
      (bif Nat.blt pc 97 then (bif Nat.beq pc 94 then some (.getfield 38, 3, 9, 0, 892, .int 0) else none) else
       (bif Nat.blt pc 98 then (bif Nat.beq pc 97 then some (.idiv, 1, 0, 0, 0, mj_u) else none) else
        (bif Nat.beq pc 98 then some (.iload_n 2, 1, 2, 0, 0, mj_u) else none)))) else
     (bif Nat.blt pc 104 then (bif Nat.blt pc 100 then (bif Nat.beq pc 99 then some (.isub, 1, 0, 0, 0, mj_u) else none) else
       (bif Nat.blt pc 102 then (bif Nat.beq pc 100 then some (.istore 8, 2, 8, 0, 0, mj_u) else none) else
        (bif Nat.beq pc 102 then some (.iload 7, 2, 7, 0, 0, mj_u) else none))) else
      (bif Nat.blt pc 106 then (bif Nat.beq pc 104 then some (.iload 7, 2, 7, 0, 0, mj_u) else none) else
       (bif Nat.blt pc 107 then (bif Nat.beq pc 106 then some (.imul, 1, 0, 0, 0, mj_u) else none) else
        (bif Nat.beq pc 107 then some (.iload 8, 2, 8, 0, 0, mj_u) else none))))) else
    (bif Nat.blt pc 117 then (bif Nat.blt pc 112 then (bif Nat.blt pc 111 then (bif Nat.beq pc 109 then some (.iload 8, 2, 8, 0, 0, mj_u) else none) else
       (bif Nat.beq pc 111 then some (.imul, 1, 0, 0, 0, mj_u) else none)) else
      (bif Nat.blt pc 113 then (bif Nat.beq pc 112 then some (.iadd, 1, 0, 0, 0, mj_u) else none) else
       (bif Nat.blt pc 115 then (bif Nat.beq pc 113 then some (.istore 9, 2, 9, 0, 0, mj_u) else none) else
        (bif Nat.beq pc 115 then some (.iload 9, 2, 9, 0, 0, mj_u) else none)))) else
     (bif Nat.blt pc 120 then (bif Nat.blt pc 118 then (bif Nat.beq pc 117 then some (.iload_n 3, 1, 3, 0, 0, mj_u) else none) else
       (bif Nat.blt pc 119 then (bif Nat.beq pc 118 then some (.iload_n 3, 1, 3, 0, 0, mj_u) else none) else
        (bif Nat.beq pc 119 then some (.imul, 1, 0, 0, 0, mj_u) else none))) else
      (bif Nat.blt pc 123 then (bif Nat.beq pc 120 then some (.if_icmp .gt 31, 3, 151, 0, 0, mj_u) else none) else
       (bif Nat.blt pc 125 then (bif Nat.beq pc 123 then some (.aload 5, 2, 5, 0, 0, mj_u) else none) else
        (bif Nat.beq pc 125 then some (.iload 6, 2, 6, 0, 0, mj_u) else none)))))) else
   (bif Nat.blt pc 143 then (bif Nat.blt pc 135 then (bif Nat.blt pc 131 then (bif Nat.blt pc 129 then (bif Nat.beq pc 127 then some (.aload 5, 2, 5, 0, 0, mj_u) else none) else
       (bif Nat.beq pc 129 then some (.iload 6, 2, 6, 0, 0, mj_u) else none)) else
      (bif Nat.blt pc 132 then (bif Nat.beq pc 131 then some (.iaload, 1, 0, 0, 0, mj_u) else none) else
       (bif Nat.blt pc 134 then (bif Nat.beq pc 132 then some (.iload 4, 2, 4, 0, 0, mj_u) else none) else
        (bif Nat.beq pc 134 then some (.iadd, 1, 0, 0, 0, mj_u) else none)))) else
     (bif Nat.blt pc 140 then (bif Nat.blt pc 137 then (bif Nat.beq pc 135 then some (.iload 4, 2, 4, 0, 0, mj_u) else none) else
       (bif Nat.blt pc 139 then (bif Nat.beq pc 137 then some (.iload 9, 2, 9, 0, 0, mj_u) else none) else
        (bif Nat.beq pc 139 then some (.imul, 1, 0, 0, 0, mj_u) else none))) else
      (bif Nat.blt pc 141 then (bif Nat.beq pc 140 then some (.iload_n 3, 1, 3, 0, 0, mj_u) else none) else
       (bif Nat.blt pc 142 then (bif Nat.beq pc 141 then some (.iload_n 3, 1, 3, 0, 0, mj_u) else none) else
        (bif Nat.beq pc 142 then some (.imul, 1, 0, 0, 0, mj_u) else none))))) else
    (bif Nat.blt pc 151 then (bif Nat.blt pc 146 then (bif Nat.blt pc 144 then (bif Nat.beq pc 143 then some (.iconst 1, 1, 0, 0, 0, .int 1) else none) else
       (bif Nat.blt pc 145 then (bif Nat.beq pc 144 then some (.iadd, 1, 0, 0, 0, mj_u) else none) else
        (bif Nat.beq pc 145 then some (.idiv, 1, 0, 0, 0, mj_u) else none))) else
      (bif Nat.blt pc 147 then (bif Nat.beq pc 146 then some (.isub, 1, 0, 0, 0, mj_u) else none) else
       (bif Nat.blt pc 150 then (bif Nat.beq pc 147 then some (.invokestatic 78, 3, 124, 0, 968, mj_u) else none) else
        (bif Nat.beq pc 150 then some (.iastore, 1, 0, 0, 0, mj_u) else none)))) else
     (bif Nat.blt pc 158 then (bif Nat.blt pc 154 then (bif Nat.beq pc 151 then some (.iinc 6 1, 3, 6, 0, 0, .int 1) else none) else
       (bif Nat.blt pc 157 then (bif Nat.beq pc 154 then some (.goto (-88), 3, 66, 0, 0, mj_u) else none) else
        (bif Nat.beq pc 157 then some (.aload_n 0, 1, 0, 0, 0, mj_u) else none))) else
      (bif Nat.blt pc 160 then (bif Nat.beq pc 158 then some (.aload 5, 2, 5, 0, 0, mj_u) else none) else
       (bif Nat.blt pc 163 then (bif Nat.beq pc 160 then some (.invokevirtual 82, 3, 125, 0, 973, mj_u) else none) else
        (bif Nat.beq pc 163 then some (.ireturn, 1, 0, 0, 0, mj_u) else none)))))))
def m_M_hill : mj_M := (129, prog_11_method_15_code, 10, (Option.some Jvm.ClassFile.FieldType.int), 10, 4, 993, 991, 992, 55, 164, k_M_hill)
/-- WatershedMapModel.dig(IIIII)I -/
def k_M_dig : Nat → Option mj_I := fun pc =>
  bif Nat.blt pc 75 then (bif Nat.blt pc 35 then (bif Nat.blt pc 14 then (bif Nat.blt pc 4 then (bif Nat.blt pc 2 then (bif Nat.blt pc 1 then (bif Nat.beq pc 0 then some (.aload_n 0, 1, 0, 0, 0, mj_u) else none) else
       (bif Nat.beq pc 1 then some (.aload_n 0, 1, 0, 0, 0, mj_u) else none)) else
      (bif Nat.blt pc 3 then (bif Nat.beq pc 2 then some (.iload_n 1, 1, 1, 0, 0, mj_u) else none) else
       (bif Nat.beq pc 3 then some (.iload_n 2, 1, 2, 0, 0, mj_u) else none))) else
     (bif Nat.blt pc 10 then (bif Nat.blt pc 7 then (bif Nat.beq pc 4 then some (.invokevirtual 48, 3, 120, 0, 941, mj_u) else none) else
       (bif Nat.beq pc 7 then some (.ifCond .ne 13, 3, 20, 0, 0, mj_u) else none)) else
      (bif Nat.blt pc 11 then (bif Nat.beq pc 10 then some (.aload_n 0, 1, 0, 0, 0, mj_u) else none) else
       (bif Nat.blt pc 12 then (bif Nat.beq pc 11 then some (.iload_n 3, 1, 3, 0, 0, mj_u) else none) else
        (bif Nat.beq pc 12 then some (.iload 4, 2, 4, 0, 0, mj_u) else none))))) else
    (bif Nat.blt pc 25 then (bif Nat.blt pc 20 then (bif Nat.blt pc 17 then (bif Nat.beq pc 14 then some (.invokevirtual 48, 3, 120, 0, 941, mj_u) else none) else
       (bif Nat.beq pc 17 then some (.ifCond .eq 7, 3, 24, 0, 0, mj_u) else none)) else
      (bif Nat.blt pc 21 then (bif Nat.beq pc 20 then some (.iconst 1, 1, 0, 0, 0, .int 1) else none) else
       (bif Nat.blt pc 24 then (bif Nat.beq pc 21 then some (.goto 4, 3, 25, 0, 0, mj_u) else none) else
        (bif Nat.beq pc 24 then some (.iconst 0, 1, 0, 0, 0, .int 0) else none)))) else
     (bif Nat.blt pc 29 then (bif Nat.blt pc 26 then (bif Nat.beq pc 25 then some (.iconst 1, 1, 0, 0, 0, .int 1) else none) else
       (bif Nat.beq pc 26 then some (.invokevirtual 52, 3, 116, 0, 925, mj_u) else none)) else
      (bif Nat.blt pc 32 then (bif Nat.beq pc 29 then some (.ifCond .ne 28, 3, 57, 0, 0, mj_u) else none) else
       (bif Nat.blt pc 33 then (bif Nat.beq pc 32 then some (.aload_n 0, 1, 0, 0, 0, mj_u) else none) else
        (bif Nat.beq pc 33 then some (.iload 5, 2, 5, 0, 0, mj_u) else none)))))) else
   (bif Nat.blt pc 54 then (bif Nat.blt pc 45 then (bif Nat.blt pc 39 then (bif Nat.blt pc 36 then (bif Nat.beq pc 35 then some (.iconst 0, 1, 0, 0, 0, .int 0) else none) else
       (bif Nat.beq pc 36 then some (.sipush 999, 3, 0, 0, 0, .int 999) else none)) else
      (bif Nat.blt pc 42 then (bif Nat.beq pc 39 then some (.invokestatic 41, 3, 115, 0, 922, mj_u) else none) else
       (bif Nat.beq pc 42 then some (.ifCond .ne 7, 3, 49, 0, 0, mj_u) else none))) else
     (bif Nat.blt pc 49 then (bif Nat.blt pc 46 then (bif Nat.beq pc 45 then some (.iconst 1, 1, 0, 0, 0, .int 1) else none) else
       (bif Nat.beq pc 46 then some (.goto 4, 3, 50, 0, 0, mj_u) else none)) else
      (bif Nat.blt pc 50 then (bif Nat.beq pc 49 then some (.iconst 0, 1, 0, 0, 0, .int 0) else none) else
       (bif Nat.blt pc 51 then (bif Nat.beq pc 50 then some (.iconst 2, 1, 0, 0, 0, .int 2) else none) else
        (bif Nat.beq pc 51 then some (.invokevirtual 34, 3, 117, 0, 929, mj_u) else none))))) else
    (bif Nat.blt pc 63 then (bif Nat.blt pc 58 then (bif Nat.blt pc 57 then (bif Nat.beq pc 54 then some (.ifCond .eq 5, 3, 59, 0, 0, mj_u) else none) else
       (bif Nat.beq pc 57 then some (.iconst 0, 1, 0, 0, 0, .int 0) else none)) else
      (bif Nat.blt pc 59 then (bif Nat.beq pc 58 then some (.ireturn, 1, 0, 0, 0, mj_u) else none) else
       (bif Nat.blt pc 60 then (bif Nat.beq pc 59 then some (.aload_n 0, 1, 0, 0, 0, mj_u) else none) else
        (bif Nat.beq pc 60 then some (.getfield 23, 3, 10, 1, 905, .null) else none)))) else
     (bif Nat.blt pc 69 then (bif Nat.blt pc 66 then (bif Nat.beq pc 63 then some (.getfield 55, 3, 9, 2, 896, .null) else none) else
       (bif Nat.beq pc 66 then some (.invokevirtual 73, 3, 1002, 0, 966, mj_u) else none)) else
      (bif Nat.blt pc 72 then (bif Nat.beq pc 69 then some (.checkcast 74, 3, 0, 0, 0, mj_u) else none) else
       (bif Nat.blt pc 74 then (bif Nat.beq pc 72 then some (.astore 6, 2, 6, 0, 0, mj_u) else none) else
        (bif Nat.beq pc 74 then some (.aload_n 0, 1, 0, 0, 0, mj_u) else none))))))) else
  (bif Nat.blt pc 111 then (bif Nat.blt pc 91 then (bif Nat.blt pc 82 then (bif Nat.blt pc 77 then (bif Nat.blt pc 76 then (bif Nat.beq pc 75 then some (.iload_n 1, 1, 1, 0, 0, mj_u) else none) else
       (bif Nat.beq pc 76 then some (.iload_n 2, 1, 2, 0, 0, mj_u) else none)) else
      (bif Nat.blt pc 80 then (bif Nat.beq pc 77 then some (.invokevirtual 66, 3, 121, 0, 945, mj_u) else none) else
       (bif Nat.beq pc 80 then some (.istore 7, 2, 7, 0, 0, mj_u) else none))) else
     (bif Nat.blt pc 84 then (bif Nat.blt pc 83 then (bif Nat.beq pc 82 then some (.aload_n 0, 1, 0, 0, 0, mj_u) else none) else
       (bif Nat.beq pc 83 then some (.iload_n 3, 1, 3, 0, 0, mj_u) else none)) else
      (bif Nat.blt pc 86 then (bif Nat.beq pc 84 then some (.iload 4, 2, 4, 0, 0, mj_u) else none) else
       (bif Nat.blt pc 89 then (bif Nat.beq pc 86 then some (.invokevirtual 66, 3, 121, 0, 945, mj_u) else none) else
        (bif Nat.beq pc 89 then some (.istore 8, 2, 8, 0, 0, mj_u) else none))))) else
    (bif Nat.blt pc 100 then (bif Nat.blt pc 94 then (bif Nat.blt pc 92 then (bif Nat.beq pc 91 then some (.iconst 0, 1, 0, 0, 0, .int 0) else none) else
       (bif Nat.beq pc 92 then some (.istore 9, 2, 9, 0, 0, mj_u) else none)) else
      (bif Nat.blt pc 96 then (bif Nat.beq pc 94 then some (.iload 9, 2, 9, 0, 0, mj_u) else none) else
       (bif Nat.blt pc 97 then (bif Nat.beq pc 96 then some (.aload_n 0, 1, 0, 0, 0, mj_u) else none) else
        (bif Nat.beq pc 97 then some (.getfield 23, 3, 10, 1, 905, .null) else none)))) else
     (bif Nat.blt pc 104 then (bif Nat.blt pc 102 then (bif Nat.beq pc 100 then some (.iload 7, 2, 7, 0, 0, mj_u) else none) else
       (bif Nat.beq pc 102 then some (.iload 8, 2, 8, 0, 0, mj_u) else none)) else
      (bif Nat.blt pc 107 then (bif Nat.beq pc 104 then some (.invokevirtual 89, 3, 131, 0, 998, mj_u) else none) else
       (bif Nat.blt pc 110 then (bif Nat.beq pc 107 then some (.if_icmp .gt 39, 3, 146, 0, 0, mj_u) else none) else
        (bif Nat.beq pc 110 then some (.aload_n 0, 1, 0, 0, 0, mj_u) else none)))))) else
   (bif Nat.blt pc 133 then (bif Nat.blt pc 123 then (bif Nat.blt pc 116 then (bif Nat.blt pc 114 then (bif Nat.beq pc 111 then some (.getfield 23, 3, 10, 1, 905, .null) else none) else
       (bif Nat.beq pc 114 then some (.iload 7, 2, 7, 0, 0, mj_u) else none)) else
      (bif Nat.blt pc 118 then (bif Nat.beq pc 116 then some (.iload 8, 2, 8, 0, 0, mj_u) else none) else
       (bif Nat.blt pc 120 then (bif Nat.beq pc 118 then some (.iload 9, 2, 9, 0, 0, mj_u) else none) else
        (bif Nat.beq pc 120 then some (.invokevirtual 92, 3, 132, 0, 1003, mj_u) else none)))) else
     (bif Nat.blt pc 127 then (bif Nat.blt pc 125 then (bif Nat.beq pc 123 then some (.istore 10, 2, 10, 0, 0, mj_u) else none) else
       (bif Nat.beq pc 125 then some (.aload 6, 2, 6, 0, 0, mj_u) else none)) else
      (bif Nat.blt pc 129 then (bif Nat.beq pc 127 then some (.iload 10, 2, 10, 0, 0, mj_u) else none) else
       (bif Nat.blt pc 131 then (bif Nat.beq pc 129 then some (.aload 6, 2, 6, 0, 0, mj_u) else none) else
        (bif Nat.beq pc 131 then some (.iload 10, 2, 10, 0, 0, mj_u) else none))))) else
    (bif Nat.blt pc 143 then (bif Nat.blt pc 136 then (bif Nat.blt pc 134 then (bif Nat.beq pc 133 then some (.iaload, 1, 0, 0, 0, mj_u) else none) else
       (bif Nat.beq pc 134 then some (.iload 5, 2, 5, 0, 0, mj_u) else none)) else
      (bif Nat.blt pc 139 then (bif Nat.beq pc 136 then some (.invokestatic 3, 3, 59, 0, 971, mj_u) else none) else
       (bif Nat.blt pc 140 then (bif Nat.beq pc 139 then some (.iastore, 1, 0, 0, 0, mj_u) else none) else
        (bif Nat.beq pc 140 then some (.iinc 9 1, 3, 9, 0, 0, .int 1) else none)))) else
     (bif Nat.blt pc 147 then (bif Nat.blt pc 146 then (bif Nat.beq pc 143 then some (.goto (-49), 3, 94, 0, 0, mj_u) else none) else
       (bif Nat.beq pc 146 then some (.aload_n 0, 1, 0, 0, 0, mj_u) else none)) else
      (bif Nat.blt pc 149 then (bif Nat.beq pc 147 then some (.aload 6, 2, 6, 0, 0, mj_u) else none) else
       (bif Nat.blt pc 152 then (bif Nat.beq pc 149 then some (.invokevirtual 82, 3, 125, 0, 973, mj_u) else none) else
        (bif Nat.beq pc 152 then some (.ireturn, 1, 0, 0, 0, mj_u) else none)))))))
def m_M_dig : mj_M := (130, prog_11_method_16_code, 11, (Option.some Jvm.ClassFile.FieldType.int), 10, 5, 997, 995, 996, 55, 153, k_M_dig)
/-- WatershedMapModel$Land.far(II)I -/
def k_ML_far : Nat → Option mj_I := fun pc =>
  bif Nat.blt pc 17 then (bif Nat.blt pc 7 then (bif Nat.blt pc 2 then (bif Nat.blt pc 1 then (bif Nat.beq pc 0 then some (.iload_n 2, 1, 2, 0, 0, mj_u) else none) else
     (bif Nat.beq pc 1 then some (.aload_n 0, 1, 0, 0, 0, mj_u) else none)) else
    (bif Nat.blt pc 5 then (bif Nat.beq pc 2 then some (.getfield 9, 3, 9, 0, 891, .int 0) else none) else
     (bif Nat.blt pc 6 then (bif Nat.beq pc 5 then some (.irem, 1, 0, 0, 0, mj_u) else none) else
      (bif Nat.beq pc 6 then some (.iload_n 1, 1, 1, 0, 0, mj_u) else none)))) else
   (bif Nat.blt pc 12 then (bif Nat.blt pc 8 then (bif Nat.beq pc 7 then some (.aload_n 0, 1, 0, 0, 0, mj_u) else none) else
     (bif Nat.blt pc 11 then (bif Nat.beq pc 8 then some (.getfield 9, 3, 9, 0, 891, .int 0) else none) else
      (bif Nat.beq pc 11 then some (.irem, 1, 0, 0, 0, mj_u) else none))) else
    (bif Nat.blt pc 13 then (bif Nat.beq pc 12 then some (.isub, 1, 0, 0, 0, mj_u) else none) else
     (bif Nat.blt pc 16 then (bif Nat.beq pc 13 then some (.invokestatic 105, 3, 54, 0, 1002, mj_u) else none) else
      (bif Nat.beq pc 16 then some (.iload_n 2, 1, 2, 0, 0, mj_u) else none))))) else
  (bif Nat.blt pc 24 then (bif Nat.blt pc 21 then (bif Nat.blt pc 18 then (bif Nat.beq pc 17 then some (.aload_n 0, 1, 0, 0, 0, mj_u) else none) else
     (bif Nat.beq pc 18 then some (.getfield 9, 3, 9, 0, 891, .int 0) else none)) else
    (bif Nat.blt pc 22 then (bif Nat.beq pc 21 then some (.idiv, 1, 0, 0, 0, mj_u) else none) else
     (bif Nat.blt pc 23 then (bif Nat.beq pc 22 then some (.iload_n 1, 1, 1, 0, 0, mj_u) else none) else
      (bif Nat.beq pc 23 then some (.aload_n 0, 1, 0, 0, 0, mj_u) else none)))) else
   (bif Nat.blt pc 29 then (bif Nat.blt pc 27 then (bif Nat.beq pc 24 then some (.getfield 9, 3, 9, 0, 891, .int 0) else none) else
     (bif Nat.blt pc 28 then (bif Nat.beq pc 27 then some (.idiv, 1, 0, 0, 0, mj_u) else none) else
      (bif Nat.beq pc 28 then some (.isub, 1, 0, 0, 0, mj_u) else none))) else
    (bif Nat.blt pc 32 then (bif Nat.beq pc 29 then some (.invokestatic 105, 3, 54, 0, 1002, mj_u) else none) else
     (bif Nat.blt pc 35 then (bif Nat.beq pc 32 then some (.invokestatic 42, 3, 26, 0, 989, mj_u) else none) else
      (bif Nat.beq pc 35 then some (.ireturn, 1, 0, 0, 0, mj_u) else none)))))
def m_ML_far : mj_M := (131, prog_12_method_25_code, 3, (Option.some Jvm.ClassFile.FieldType.int), 9, 2, 1001, 999, 1000, 56, 36, k_ML_far)
/-- WatershedMapModel$Land.between(III)I -/
def k_ML_between : Nat → Option mj_I := fun pc =>
  bif Nat.blt pc 57 then (bif Nat.blt pc 23 then (bif Nat.blt pc 12 then (bif Nat.blt pc 6 then (bif Nat.blt pc 2 then (bif Nat.blt pc 1 then (bif Nat.beq pc 0 then some (.iload_n 2, 1, 2, 0, 0, mj_u) else none) else
       (bif Nat.beq pc 1 then some (.aload_n 0, 1, 0, 0, 0, mj_u) else none)) else
      (bif Nat.blt pc 5 then (bif Nat.beq pc 2 then some (.getfield 9, 3, 9, 0, 891, .int 0) else none) else
       (bif Nat.beq pc 5 then some (.irem, 1, 0, 0, 0, mj_u) else none))) else
     (bif Nat.blt pc 8 then (bif Nat.blt pc 7 then (bif Nat.beq pc 6 then some (.iload_n 1, 1, 1, 0, 0, mj_u) else none) else
       (bif Nat.beq pc 7 then some (.aload_n 0, 1, 0, 0, 0, mj_u) else none)) else
      (bif Nat.blt pc 11 then (bif Nat.beq pc 8 then some (.getfield 9, 3, 9, 0, 891, .int 0) else none) else
       (bif Nat.beq pc 11 then some (.irem, 1, 0, 0, 0, mj_u) else none)))) else
    (bif Nat.blt pc 17 then (bif Nat.blt pc 15 then (bif Nat.blt pc 13 then (bif Nat.beq pc 12 then some (.isub, 1, 0, 0, 0, mj_u) else none) else
       (bif Nat.beq pc 13 then some (.istore 4, 2, 4, 0, 0, mj_u) else none)) else
      (bif Nat.blt pc 16 then (bif Nat.beq pc 15 then some (.iload_n 2, 1, 2, 0, 0, mj_u) else none) else
       (bif Nat.beq pc 16 then some (.aload_n 0, 1, 0, 0, 0, mj_u) else none))) else
     (bif Nat.blt pc 21 then (bif Nat.blt pc 20 then (bif Nat.beq pc 17 then some (.getfield 9, 3, 9, 0, 891, .int 0) else none) else
       (bif Nat.beq pc 20 then some (.idiv, 1, 0, 0, 0, mj_u) else none)) else
      (bif Nat.blt pc 22 then (bif Nat.beq pc 21 then some (.iload_n 1, 1, 1, 0, 0, mj_u) else none) else
       (bif Nat.beq pc 22 then some (.aload_n 0, 1, 0, 0, 0, mj_u) else none))))) else
   (bif Nat.blt pc 40 then (bif Nat.blt pc 30 then (bif Nat.blt pc 27 then (bif Nat.blt pc 26 then (bif Nat.beq pc 23 then some (.getfield 9, 3, 9, 0, 891, .int 0) else none) else
       (bif Nat.beq pc 26 then some (.idiv, 1, 0, 0, 0, mj_u) else none)) else
      (bif Nat.blt pc 28 then (bif Nat.beq pc 27 then some (.isub, 1, 0, 0, 0, mj_u) else none) else
       (bif Nat.beq pc 28 then some (.istore 5, 2, 5, 0, 0, mj_u) else none))) else
     (bif Nat.blt pc 35 then (bif Nat.blt pc 32 then (bif Nat.beq pc 30 then some (.iload 4, 2, 4, 0, 0, mj_u) else none) else
       (bif Nat.beq pc 32 then some (.invokestatic 105, 3, 54, 0, 1002, mj_u) else none)) else
      (bif Nat.blt pc 37 then (bif Nat.beq pc 35 then some (.iload 5, 2, 5, 0, 0, mj_u) else none) else
       (bif Nat.beq pc 37 then some (.invokestatic 105, 3, 54, 0, 1002, mj_u) else none)))) else
    (bif Nat.blt pc 50 then (bif Nat.blt pc 45 then (bif Nat.blt pc 43 then (bif Nat.beq pc 40 then some (.invokestatic 42, 3, 26, 0, 989, mj_u) else none) else
       (bif Nat.beq pc 43 then some (.istore 6, 2, 6, 0, 0, mj_u) else none)) else
      (bif Nat.blt pc 47 then (bif Nat.beq pc 45 then some (.iload 6, 2, 6, 0, 0, mj_u) else none) else
       (bif Nat.beq pc 47 then some (.ifCond .ne 5, 3, 52, 0, 0, mj_u) else none))) else
     (bif Nat.blt pc 52 then (bif Nat.blt pc 51 then (bif Nat.beq pc 50 then some (.iload_n 1, 1, 1, 0, 0, mj_u) else none) else
       (bif Nat.beq pc 51 then some (.ireturn, 1, 0, 0, 0, mj_u) else none)) else
      (bif Nat.blt pc 53 then (bif Nat.beq pc 52 then some (.iload_n 1, 1, 1, 0, 0, mj_u) else none) else
       (bif Nat.blt pc 54 then (bif Nat.beq pc 53 then some (.aload_n 0, 1, 0, 0, 0, mj_u) else none) else
        (bif Nat.beq pc 54 then some (.getfield 9, 3, 9, 0, 891, .int 0) else none))))))) else
  (bif Nat.blt pc 81 then (bif Nat.blt pc 67 then (bif Nat.blt pc 61 then (bif Nat.blt pc 59 then (bif Nat.blt pc 58 then (bif Nat.beq pc 57 then some (.idiv, 1, 0, 0, 0, mj_u) else none) else
       (bif Nat.beq pc 58 then some (.iconst 2, 1, 0, 0, 0, .int 2) else none)) else
      (bif Nat.blt pc 60 then (bif Nat.beq pc 59 then some (.iload_n 3, 1, 3, 0, 0, mj_u) else none) else
       (bif Nat.beq pc 60 then some (.imul, 1, 0, 0, 0, mj_u) else none))) else
     (bif Nat.blt pc 64 then (bif Nat.blt pc 63 then (bif Nat.beq pc 61 then some (.iload 5, 2, 5, 0, 0, mj_u) else none) else
       (bif Nat.beq pc 63 then some (.imul, 1, 0, 0, 0, mj_u) else none)) else
      (bif Nat.blt pc 66 then (bif Nat.beq pc 64 then some (.iload 6, 2, 6, 0, 0, mj_u) else none) else
       (bif Nat.beq pc 66 then some (.iadd, 1, 0, 0, 0, mj_u) else none)))) else
    (bif Nat.blt pc 74 then (bif Nat.blt pc 70 then (bif Nat.blt pc 68 then (bif Nat.beq pc 67 then some (.iconst 2, 1, 0, 0, 0, .int 2) else none) else
       (bif Nat.beq pc 68 then some (.iload 6, 2, 6, 0, 0, mj_u) else none)) else
      (bif Nat.blt pc 71 then (bif Nat.beq pc 70 then some (.imul, 1, 0, 0, 0, mj_u) else none) else
       (bif Nat.beq pc 71 then some (.invokestatic 108, 3, 84, 0, 1007, mj_u) else none))) else
     (bif Nat.blt pc 76 then (bif Nat.blt pc 75 then (bif Nat.beq pc 74 then some (.iadd, 1, 0, 0, 0, mj_u) else none) else
       (bif Nat.beq pc 75 then some (.aload_n 0, 1, 0, 0, 0, mj_u) else none)) else
      (bif Nat.blt pc 79 then (bif Nat.beq pc 76 then some (.getfield 9, 3, 9, 0, 891, .int 0) else none) else
       (bif Nat.blt pc 80 then (bif Nat.beq pc 79 then some (.imul, 1, 0, 0, 0, mj_u) else none) else
        (bif Nat.beq pc 80 then some (.iload_n 1, 1, 1, 0, 0, mj_u) else none)))))) else
   (bif Nat.blt pc 92 then (bif Nat.blt pc 87 then (bif Nat.blt pc 85 then (bif Nat.blt pc 82 then (bif Nat.beq pc 81 then some (.aload_n 0, 1, 0, 0, 0, mj_u) else none) else
       (bif Nat.beq pc 82 then some (.getfield 9, 3, 9, 0, 891, .int 0) else none)) else
      (bif Nat.blt pc 86 then (bif Nat.beq pc 85 then some (.irem, 1, 0, 0, 0, mj_u) else none) else
       (bif Nat.beq pc 86 then some (.iadd, 1, 0, 0, 0, mj_u) else none))) else
     (bif Nat.blt pc 89 then (bif Nat.blt pc 88 then (bif Nat.beq pc 87 then some (.iconst 2, 1, 0, 0, 0, .int 2) else none) else
       (bif Nat.beq pc 88 then some (.iload_n 3, 1, 3, 0, 0, mj_u) else none)) else
      (bif Nat.blt pc 90 then (bif Nat.beq pc 89 then some (.imul, 1, 0, 0, 0, mj_u) else none) else
       (bif Nat.beq pc 90 then some (.iload 4, 2, 4, 0, 0, mj_u) else none)))) else
    (bif Nat.blt pc 97 then (bif Nat.blt pc 95 then (bif Nat.blt pc 93 then (bif Nat.beq pc 92 then some (.imul, 1, 0, 0, 0, mj_u) else none) else
       (bif Nat.beq pc 93 then some (.iload 6, 2, 6, 0, 0, mj_u) else none)) else
      (bif Nat.blt pc 96 then (bif Nat.beq pc 95 then some (.iadd, 1, 0, 0, 0, mj_u) else none) else
       (bif Nat.beq pc 96 then some (.iconst 2, 1, 0, 0, 0, .int 2) else none))) else
     (bif Nat.blt pc 100 then (bif Nat.blt pc 99 then (bif Nat.beq pc 97 then some (.iload 6, 2, 6, 0, 0, mj_u) else none) else
       (bif Nat.beq pc 99 then some (.imul, 1, 0, 0, 0, mj_u) else none)) else
      (bif Nat.blt pc 103 then (bif Nat.beq pc 100 then some (.invokestatic 108, 3, 84, 0, 1007, mj_u) else none) else
       (bif Nat.blt pc 104 then (bif Nat.beq pc 103 then some (.iadd, 1, 0, 0, 0, mj_u) else none) else
        (bif Nat.beq pc 104 then some (.ireturn, 1, 0, 0, 0, mj_u) else none)))))))
def m_ML_between : mj_M := (132, prog_12_method_24_code, 7, (Option.some Jvm.ClassFile.FieldType.int), 9, 3, 1006, 1004, 1005, 56, 105, k_ML_between)
/-- WatershedMapModel.smooth()I -/
def k_M_smooth : Nat → Option mj_I := fun pc =>
  bif Nat.blt pc 50 then (bif Nat.blt pc 24 then (bif Nat.blt pc 14 then (bif Nat.blt pc 5 then (bif Nat.blt pc 1 then (bif Nat.beq pc 0 then some (.aload_n 0, 1, 0, 0, 0, mj_u) else none) else
      (bif Nat.blt pc 2 then (bif Nat.beq pc 1 then some (.iconst 0, 1, 0, 0, 0, .int 0) else none) else
       (bif Nat.beq pc 2 then some (.putfield 31, 3, 10, 0, 904, .int 0) else none))) else
     (bif Nat.blt pc 9 then (bif Nat.blt pc 6 then (bif Nat.beq pc 5 then some (.aload_n 0, 1, 0, 0, 0, mj_u) else none) else
       (bif Nat.beq pc 6 then some (.getfield 23, 3, 10, 1, 905, .null) else none)) else
      (bif Nat.blt pc 12 then (bif Nat.beq pc 9 then some (.invokevirtual 96, 3, 127, 0, 1012, mj_u) else none) else
       (bif Nat.beq pc 12 then some (.newarray .int, 2, 0, 0, 0, mj_u) else none)))) else
    (bif Nat.blt pc 18 then (bif Nat.blt pc 16 then (bif Nat.blt pc 15 then (bif Nat.beq pc 14 then some (.astore_n 1, 1, 1, 0, 0, mj_u) else none) else
       (bif Nat.beq pc 15 then some (.iconst 0, 1, 0, 0, 0, .int 0) else none)) else
      (bif Nat.blt pc 17 then (bif Nat.beq pc 16 then some (.istore_n 2, 1, 2, 0, 0, mj_u) else none) else
       (bif Nat.beq pc 17 then some (.iload_n 2, 1, 2, 0, 0, mj_u) else none))) else
     (bif Nat.blt pc 20 then (bif Nat.blt pc 19 then (bif Nat.beq pc 18 then some (.aload_n 1, 1, 1, 0, 0, mj_u) else none) else
       (bif Nat.beq pc 19 then some (.arraylength, 1, 0, 0, 0, mj_u) else none)) else
      (bif Nat.blt pc 23 then (bif Nat.beq pc 20 then some (.if_icmp .ge 82, 3, 102, 0, 0, mj_u) else none) else
       (bif Nat.beq pc 23 then some (.iconst 4, 1, 0, 0, 0, .int 4) else none))))) else
   (bif Nat.blt pc 35 then (bif Nat.blt pc 31 then (bif Nat.blt pc 25 then (bif Nat.beq pc 24 then some (.aload_n 0, 1, 0, 0, 0, mj_u) else none) else
      (bif Nat.blt pc 28 then (bif Nat.beq pc 25 then some (.getfield 23, 3, 10, 1, 905, .null) else none) else
       (bif Nat.beq pc 28 then some (.getfield 55, 3, 9, 2, 896, .null) else none))) else
     (bif Nat.blt pc 33 then (bif Nat.blt pc 32 then (bif Nat.beq pc 31 then some (.iload_n 2, 1, 2, 0, 0, mj_u) else none) else
       (bif Nat.beq pc 32 then some (.iaload, 1, 0, 0, 0, mj_u) else none)) else
      (bif Nat.blt pc 34 then (bif Nat.beq pc 33 then some (.imul, 1, 0, 0, 0, mj_u) else none) else
       (bif Nat.beq pc 34 then some (.istore_n 3, 1, 3, 0, 0, mj_u) else none)))) else
    (bif Nat.blt pc 42 then (bif Nat.blt pc 38 then (bif Nat.blt pc 36 then (bif Nat.beq pc 35 then some (.iconst 0, 1, 0, 0, 0, .int 0) else none) else
       (bif Nat.beq pc 36 then some (.istore 4, 2, 4, 0, 0, mj_u) else none)) else
      (bif Nat.blt pc 40 then (bif Nat.beq pc 38 then some (.iload 4, 2, 4, 0, 0, mj_u) else none) else
       (bif Nat.beq pc 40 then some (.bipush 8, 2, 0, 0, 0, .int 8) else none))) else
     (bif Nat.blt pc 46 then (bif Nat.blt pc 45 then (bif Nat.beq pc 42 then some (.if_icmp .ge 47, 3, 89, 0, 0, mj_u) else none) else
       (bif Nat.beq pc 45 then some (.iload_n 3, 1, 3, 0, 0, mj_u) else none)) else
      (bif Nat.blt pc 47 then (bif Nat.beq pc 46 then some (.aload_n 0, 1, 0, 0, 0, mj_u) else none) else
       (bif Nat.beq pc 47 then some (.getfield 23, 3, 10, 1, 905, .null) else none)))))) else
  (bif Nat.blt pc 81 then (bif Nat.blt pc 66 then (bif Nat.blt pc 57 then (bif Nat.blt pc 53 then (bif Nat.beq pc 50 then some (.getfield 55, 3, 9, 2, 896, .null) else none) else
      (bif Nat.blt pc 54 then (bif Nat.beq pc 53 then some (.aload_n 0, 1, 0, 0, 0, mj_u) else none) else
       (bif Nat.beq pc 54 then some (.getfield 23, 3, 10, 1, 905, .null) else none))) else
     (bif Nat.blt pc 60 then (bif Nat.blt pc 58 then (bif Nat.beq pc 57 then some (.iload_n 2, 1, 2, 0, 0, mj_u) else none) else
       (bif Nat.beq pc 58 then some (.iload 4, 2, 4, 0, 0, mj_u) else none)) else
      (bif Nat.blt pc 63 then (bif Nat.beq pc 60 then some (.invokevirtual 99, 3, 134, 0, 1013, mj_u) else none) else
       (bif Nat.beq pc 63 then some (.ifCond .ge 7, 3, 70, 0, 0, mj_u) else none)))) else
    (bif Nat.blt pc 74 then (bif Nat.blt pc 70 then (bif Nat.blt pc 67 then (bif Nat.beq pc 66 then some (.iload_n 2, 1, 2, 0, 0, mj_u) else none) else
       (bif Nat.beq pc 67 then some (.goto 13, 3, 80, 0, 0, mj_u) else none)) else
      (bif Nat.blt pc 71 then (bif Nat.beq pc 70 then some (.aload_n 0, 1, 0, 0, 0, mj_u) else none) else
       (bif Nat.beq pc 71 then some (.getfield 23, 3, 10, 1, 905, .null) else none))) else
     (bif Nat.blt pc 77 then (bif Nat.blt pc 75 then (bif Nat.beq pc 74 then some (.iload_n 2, 1, 2, 0, 0, mj_u) else none) else
       (bif Nat.beq pc 75 then some (.iload 4, 2, 4, 0, 0, mj_u) else none)) else
      (bif Nat.blt pc 80 then (bif Nat.beq pc 77 then some (.invokevirtual 99, 3, 134, 0, 1013, mj_u) else none) else
       (bif Nat.beq pc 80 then some (.iaload, 1, 0, 0, 0, mj_u) else none))))) else
   (bif Nat.blt pc 94 then (bif Nat.blt pc 89 then (bif Nat.blt pc 83 then (bif Nat.blt pc 82 then (bif Nat.beq pc 81 then some (.iadd, 1, 0, 0, 0, mj_u) else none) else
       (bif Nat.beq pc 82 then some (.istore_n 3, 1, 3, 0, 0, mj_u) else none)) else
      (bif Nat.blt pc 86 then (bif Nat.beq pc 83 then some (.iinc 4 2, 3, 4, 0, 0, .int 2) else none) else
       (bif Nat.beq pc 86 then some (.goto (-48), 3, 38, 0, 0, mj_u) else none))) else
     (bif Nat.blt pc 91 then (bif Nat.blt pc 90 then (bif Nat.beq pc 89 then some (.aload_n 1, 1, 1, 0, 0, mj_u) else none) else
       (bif Nat.beq pc 90 then some (.iload_n 2, 1, 2, 0, 0, mj_u) else none)) else
      (bif Nat.blt pc 92 then (bif Nat.beq pc 91 then some (.iload_n 3, 1, 3, 0, 0, mj_u) else none) else
       (bif Nat.beq pc 92 then some (.bipush 8, 2, 0, 0, 0, .int 8) else none)))) else
    (bif Nat.blt pc 102 then (bif Nat.blt pc 96 then (bif Nat.blt pc 95 then (bif Nat.beq pc 94 then some (.idiv, 1, 0, 0, 0, mj_u) else none) else
       (bif Nat.beq pc 95 then some (.iastore, 1, 0, 0, 0, mj_u) else none)) else
      (bif Nat.blt pc 99 then (bif Nat.beq pc 96 then some (.iinc 2 1, 3, 2, 0, 0, .int 1) else none) else
       (bif Nat.beq pc 99 then some (.goto (-82), 3, 17, 0, 0, mj_u) else none))) else
     (bif Nat.blt pc 104 then (bif Nat.blt pc 103 then (bif Nat.beq pc 102 then some (.aload_n 0, 1, 0, 0, 0, mj_u) else none) else
       (bif Nat.beq pc 103 then some (.aload_n 1, 1, 1, 0, 0, mj_u) else none)) else
      (bif Nat.blt pc 107 then (bif Nat.beq pc 104 then some (.invokevirtual 82, 3, 125, 0, 973, mj_u) else none) else
       (bif Nat.beq pc 107 then some (.ireturn, 1, 0, 0, 0, mj_u) else none))))))
def m_M_smooth : mj_M := (133, prog_11_method_17_code, 5, (Option.some Jvm.ClassFile.FieldType.int), 10, 0, 1011, 1009, 1010, 55, 108, k_M_smooth)
/-- WatershedMapModel$Land.next(II)I -/
def k_ML_next : Nat → Option mj_I := fun pc =>
  bif Nat.blt pc 28 then (bif Nat.blt pc 13 then (bif Nat.blt pc 6 then (bif Nat.blt pc 2 then (bif Nat.blt pc 1 then (bif Nat.beq pc 0 then some (.iload_n 1, 1, 1, 0, 0, mj_u) else none) else
      (bif Nat.beq pc 1 then some (.aload_n 0, 1, 0, 0, 0, mj_u) else none)) else
     (bif Nat.blt pc 5 then (bif Nat.beq pc 2 then some (.getfield 9, 3, 9, 0, 891, .int 0) else none) else
      (bif Nat.beq pc 5 then some (.irem, 1, 0, 0, 0, mj_u) else none))) else
    (bif Nat.blt pc 10 then (bif Nat.blt pc 9 then (bif Nat.beq pc 6 then some (.getstatic 22, 3, 3, 1, 1017, mj_u) else none) else
      (bif Nat.beq pc 9 then some (.iload_n 2, 1, 2, 0, 0, mj_u) else none)) else
     (bif Nat.blt pc 11 then (bif Nat.beq pc 10 then some (.iaload, 1, 0, 0, 0, mj_u) else none) else
      (bif Nat.blt pc 12 then (bif Nat.beq pc 11 then some (.iadd, 1, 0, 0, 0, mj_u) else none) else
       (bif Nat.beq pc 12 then some (.istore_n 3, 1, 3, 0, 0, mj_u) else none))))) else
   (bif Nat.blt pc 22 then (bif Nat.blt pc 15 then (bif Nat.blt pc 14 then (bif Nat.beq pc 13 then some (.iload_n 1, 1, 1, 0, 0, mj_u) else none) else
      (bif Nat.beq pc 14 then some (.aload_n 0, 1, 0, 0, 0, mj_u) else none)) else
     (bif Nat.blt pc 18 then (bif Nat.beq pc 15 then some (.getfield 9, 3, 9, 0, 891, .int 0) else none) else
      (bif Nat.blt pc 19 then (bif Nat.beq pc 18 then some (.idiv, 1, 0, 0, 0, mj_u) else none) else
       (bif Nat.beq pc 19 then some (.getstatic 25, 3, 4, 1, 1019, mj_u) else none)))) else
    (bif Nat.blt pc 24 then (bif Nat.blt pc 23 then (bif Nat.beq pc 22 then some (.iload_n 2, 1, 2, 0, 0, mj_u) else none) else
      (bif Nat.beq pc 23 then some (.iaload, 1, 0, 0, 0, mj_u) else none)) else
     (bif Nat.blt pc 25 then (bif Nat.beq pc 24 then some (.iadd, 1, 0, 0, 0, mj_u) else none) else
      (bif Nat.blt pc 27 then (bif Nat.beq pc 25 then some (.istore 4, 2, 4, 0, 0, mj_u) else none) else
       (bif Nat.beq pc 27 then some (.iload_n 3, 1, 3, 0, 0, mj_u) else none)))))) else
  (bif Nat.blt pc 50 then (bif Nat.blt pc 39 then (bif Nat.blt pc 32 then (bif Nat.blt pc 31 then (bif Nat.beq pc 28 then some (.ifCond .lt 25, 3, 53, 0, 0, mj_u) else none) else
      (bif Nat.beq pc 31 then some (.iload_n 3, 1, 3, 0, 0, mj_u) else none)) else
     (bif Nat.blt pc 33 then (bif Nat.beq pc 32 then some (.aload_n 0, 1, 0, 0, 0, mj_u) else none) else
      (bif Nat.blt pc 36 then (bif Nat.beq pc 33 then some (.getfield 9, 3, 9, 0, 891, .int 0) else none) else
       (bif Nat.beq pc 36 then some (.if_icmp .ge 17, 3, 53, 0, 0, mj_u) else none)))) else
    (bif Nat.blt pc 44 then (bif Nat.blt pc 41 then (bif Nat.beq pc 39 then some (.iload 4, 2, 4, 0, 0, mj_u) else none) else
      (bif Nat.beq pc 41 then some (.ifCond .lt 12, 3, 53, 0, 0, mj_u) else none)) else
     (bif Nat.blt pc 46 then (bif Nat.beq pc 44 then some (.iload 4, 2, 4, 0, 0, mj_u) else none) else
      (bif Nat.blt pc 47 then (bif Nat.beq pc 46 then some (.aload_n 0, 1, 0, 0, 0, mj_u) else none) else
       (bif Nat.beq pc 47 then some (.getfield 15, 3, 9, 1, 893, .int 0) else none))))) else
   (bif Nat.blt pc 60 then (bif Nat.blt pc 54 then (bif Nat.blt pc 53 then (bif Nat.beq pc 50 then some (.if_icmp .lt 7, 3, 57, 0, 0, mj_u) else none) else
      (bif Nat.beq pc 53 then some (.iconst (-1), 1, 0, 0, 0, .int (-1)) else none)) else
     (bif Nat.blt pc 57 then (bif Nat.beq pc 54 then some (.goto 12, 3, 66, 0, 0, mj_u) else none) else
      (bif Nat.blt pc 59 then (bif Nat.beq pc 57 then some (.iload 4, 2, 4, 0, 0, mj_u) else none) else
       (bif Nat.beq pc 59 then some (.aload_n 0, 1, 0, 0, 0, mj_u) else none)))) else
    (bif Nat.blt pc 64 then (bif Nat.blt pc 63 then (bif Nat.beq pc 60 then some (.getfield 9, 3, 9, 0, 891, .int 0) else none) else
      (bif Nat.beq pc 63 then some (.imul, 1, 0, 0, 0, mj_u) else none)) else
     (bif Nat.blt pc 65 then (bif Nat.beq pc 64 then some (.iload_n 3, 1, 3, 0, 0, mj_u) else none) else
      (bif Nat.blt pc 66 then (bif Nat.beq pc 65 then some (.iadd, 1, 0, 0, 0, mj_u) else none) else
       (bif Nat.beq pc 66 then some (.ireturn, 1, 0, 0, 0, mj_u) else none))))))
def m_ML_next : mj_M := (134, prog_12_method_3_code, 5, (Option.some Jvm.ClassFile.FieldType.int), 9, 2, 1016, 1014, 1015, 56, 67, k_ML_next)
/-- WatershedMapModel.wear(I)I -/
def k_M_wear : Nat → Option mj_I := fun pc =>
  bif Nat.blt pc 81 then (bif Nat.blt pc 38 then (bif Nat.blt pc 17 then (bif Nat.blt pc 8 then (bif Nat.blt pc 2 then (bif Nat.blt pc 1 then (bif Nat.beq pc 0 then some (.aload_n 0, 1, 0, 0, 0, mj_u) else none) else
       (bif Nat.beq pc 1 then some (.iload_n 1, 1, 1, 0, 0, mj_u) else none)) else
      (bif Nat.blt pc 3 then (bif Nat.beq pc 2 then some (.iconst 1, 1, 0, 0, 0, .int 1) else none) else
       (bif Nat.blt pc 5 then (bif Nat.beq pc 3 then some (.bipush 50, 2, 0, 0, 0, .int 50) else none) else
        (bif Nat.beq pc 5 then some (.invokestatic 41, 3, 115, 0, 922, mj_u) else none)))) else
     (bif Nat.blt pc 12 then (bif Nat.blt pc 11 then (bif Nat.beq pc 8 then some (.ifCond .ne 7, 3, 15, 0, 0, mj_u) else none) else
       (bif Nat.beq pc 11 then some (.iconst 1, 1, 0, 0, 0, .int 1) else none)) else
      (bif Nat.blt pc 15 then (bif Nat.beq pc 12 then some (.goto 4, 3, 16, 0, 0, mj_u) else none) else
       (bif Nat.blt pc 16 then (bif Nat.beq pc 15 then some (.iconst 0, 1, 0, 0, 0, .int 0) else none) else
        (bif Nat.beq pc 16 then some (.iconst 1, 1, 0, 0, 0, .int 1) else none))))) else
    (bif Nat.blt pc 26 then (bif Nat.blt pc 23 then (bif Nat.blt pc 20 then (bif Nat.beq pc 17 then some (.invokevirtual 52, 3, 116, 0, 925, mj_u) else none) else
       (bif Nat.beq pc 20 then some (.ifCond .eq 5, 3, 25, 0, 0, mj_u) else none)) else
      (bif Nat.blt pc 24 then (bif Nat.beq pc 23 then some (.iconst 0, 1, 0, 0, 0, .int 0) else none) else
       (bif Nat.blt pc 25 then (bif Nat.beq pc 24 then some (.ireturn, 1, 0, 0, 0, mj_u) else none) else
        (bif Nat.beq pc 25 then some (.aload_n 0, 1, 0, 0, 0, mj_u) else none)))) else
     (bif Nat.blt pc 33 then (bif Nat.blt pc 29 then (bif Nat.beq pc 26 then some (.getfield 23, 3, 10, 1, 905, .null) else none) else
       (bif Nat.blt pc 32 then (bif Nat.beq pc 29 then some (.invokevirtual 102, 3, 136, 0, 1025, mj_u) else none) else
        (bif Nat.beq pc 32 then some (.astore_n 2, 1, 2, 0, 0, mj_u) else none))) else
      (bif Nat.blt pc 34 then (bif Nat.beq pc 33 then some (.aload_n 0, 1, 0, 0, 0, mj_u) else none) else
       (bif Nat.blt pc 37 then (bif Nat.beq pc 34 then some (.getfield 23, 3, 10, 1, 905, .null) else none) else
        (bif Nat.beq pc 37 then some (.aload_n 2, 1, 2, 0, 0, mj_u) else none)))))) else
   (bif Nat.blt pc 60 then (bif Nat.blt pc 49 then (bif Nat.blt pc 42 then (bif Nat.blt pc 41 then (bif Nat.beq pc 38 then some (.invokevirtual 106, 3, 139, 0, 1038, mj_u) else none) else
       (bif Nat.beq pc 41 then some (.astore_n 3, 1, 3, 0, 0, mj_u) else none)) else
      (bif Nat.blt pc 43 then (bif Nat.beq pc 42 then some (.aload_n 0, 1, 0, 0, 0, mj_u) else none) else
       (bif Nat.blt pc 46 then (bif Nat.beq pc 43 then some (.getfield 23, 3, 10, 1, 905, .null) else none) else
        (bif Nat.beq pc 46 then some (.getfield 55, 3, 9, 2, 896, .null) else none)))) else
     (bif Nat.blt pc 55 then (bif Nat.blt pc 52 then (bif Nat.beq pc 49 then some (.invokevirtual 73, 3, 1002, 0, 966, mj_u) else none) else
       (bif Nat.beq pc 52 then some (.checkcast 74, 3, 0, 0, 0, mj_u) else none)) else
      (bif Nat.blt pc 57 then (bif Nat.beq pc 55 then some (.astore 4, 2, 4, 0, 0, mj_u) else none) else
       (bif Nat.blt pc 58 then (bif Nat.beq pc 57 then some (.iconst 0, 1, 0, 0, 0, .int 0) else none) else
        (bif Nat.beq pc 58 then some (.istore 5, 2, 5, 0, 0, mj_u) else none))))) else
    (bif Nat.blt pc 68 then (bif Nat.blt pc 63 then (bif Nat.blt pc 61 then (bif Nat.beq pc 60 then some (.iconst 0, 1, 0, 0, 0, .int 0) else none) else
       (bif Nat.beq pc 61 then some (.istore 6, 2, 6, 0, 0, mj_u) else none)) else
      (bif Nat.blt pc 65 then (bif Nat.beq pc 63 then some (.iload 6, 2, 6, 0, 0, mj_u) else none) else
       (bif Nat.blt pc 67 then (bif Nat.beq pc 65 then some (.aload 4, 2, 4, 0, 0, mj_u) else none) else
        (bif Nat.beq pc 67 then some (.arraylength, 1, 0, 0, 0, mj_u) else none)))) else
     (bif Nat.blt pc 74 then (bif Nat.blt pc 71 then (bif Nat.beq pc 68 then some (.if_icmp .ge 75, 3, 143, 0, 0, mj_u) else none) else
       (bif Nat.blt pc 72 then (bif Nat.beq pc 71 then some (.aload_n 2, 1, 2, 0, 0, mj_u) else none) else
        (bif Nat.beq pc 72 then some (.iload 6, 2, 6, 0, 0, mj_u) else none))) else
      (bif Nat.blt pc 75 then (bif Nat.beq pc 74 then some (.iaload, 1, 0, 0, 0, mj_u) else none) else
       (bif Nat.blt pc 78 then (bif Nat.beq pc 75 then some (.ifCond .ge 6, 3, 81, 0, 0, mj_u) else none) else
        (bif Nat.beq pc 78 then some (.goto 59, 3, 137, 0, 0, mj_u) else none))))))) else
  (bif Nat.blt pc 114 then (bif Nat.blt pc 97 then (bif Nat.blt pc 87 then (bif Nat.blt pc 83 then (bif Nat.blt pc 82 then (bif Nat.beq pc 81 then some (.iload_n 1, 1, 1, 0, 0, mj_u) else none) else
       (bif Nat.beq pc 82 then some (.aload_n 3, 1, 3, 0, 0, mj_u) else none)) else
      (bif Nat.blt pc 85 then (bif Nat.beq pc 83 then some (.iload 6, 2, 6, 0, 0, mj_u) else none) else
       (bif Nat.blt pc 86 then (bif Nat.beq pc 85 then some (.iaload, 1, 0, 0, 0, mj_u) else none) else
        (bif Nat.beq pc 86 then some (.imul, 1, 0, 0, 0, mj_u) else none)))) else
     (bif Nat.blt pc 90 then (bif Nat.blt pc 89 then (bif Nat.beq pc 87 then some (.bipush 10, 2, 0, 0, 0, .int 10) else none) else
       (bif Nat.beq pc 89 then some (.idiv, 1, 0, 0, 0, mj_u) else none)) else
      (bif Nat.blt pc 91 then (bif Nat.beq pc 90 then some (.aload_n 0, 1, 0, 0, 0, mj_u) else none) else
       (bif Nat.blt pc 94 then (bif Nat.beq pc 91 then some (.getfield 23, 3, 10, 1, 905, .null) else none) else
        (bif Nat.beq pc 94 then some (.getfield 55, 3, 9, 2, 896, .null) else none))))) else
    (bif Nat.blt pc 107 then (bif Nat.blt pc 100 then (bif Nat.blt pc 99 then (bif Nat.beq pc 97 then some (.iload 6, 2, 6, 0, 0, mj_u) else none) else
       (bif Nat.beq pc 99 then some (.iaload, 1, 0, 0, 0, mj_u) else none)) else
      (bif Nat.blt pc 101 then (bif Nat.beq pc 100 then some (.aload_n 0, 1, 0, 0, 0, mj_u) else none) else
       (bif Nat.blt pc 104 then (bif Nat.beq pc 101 then some (.getfield 23, 3, 10, 1, 905, .null) else none) else
        (bif Nat.beq pc 104 then some (.getfield 55, 3, 9, 2, 896, .null) else none)))) else
     (bif Nat.blt pc 111 then (bif Nat.blt pc 108 then (bif Nat.beq pc 107 then some (.aload_n 2, 1, 2, 0, 0, mj_u) else none) else
       (bif Nat.blt pc 110 then (bif Nat.beq pc 108 then some (.iload 6, 2, 6, 0, 0, mj_u) else none) else
        (bif Nat.beq pc 110 then some (.iaload, 1, 0, 0, 0, mj_u) else none))) else
      (bif Nat.blt pc 112 then (bif Nat.beq pc 111 then some (.iaload, 1, 0, 0, 0, mj_u) else none) else
       (bif Nat.blt pc 113 then (bif Nat.beq pc 112 then some (.isub, 1, 0, 0, 0, mj_u) else none) else
        (bif Nat.beq pc 113 then some (.iconst 2, 1, 0, 0, 0, .int 2) else none)))))) else
   (bif Nat.blt pc 132 then (bif Nat.blt pc 124 then (bif Nat.blt pc 118 then (bif Nat.blt pc 115 then (bif Nat.beq pc 114 then some (.idiv, 1, 0, 0, 0, mj_u) else none) else
       (bif Nat.beq pc 115 then some (.invokestatic 3, 3, 59, 0, 971, mj_u) else none)) else
      (bif Nat.blt pc 120 then (bif Nat.beq pc 118 then some (.istore 7, 2, 7, 0, 0, mj_u) else none) else
       (bif Nat.blt pc 122 then (bif Nat.beq pc 120 then some (.aload 4, 2, 4, 0, 0, mj_u) else none) else
        (bif Nat.beq pc 122 then some (.iload 6, 2, 6, 0, 0, mj_u) else none)))) else
     (bif Nat.blt pc 128 then (bif Nat.blt pc 125 then (bif Nat.beq pc 124 then some (.dup2, 1, 0, 0, 0, mj_u) else none) else
       (bif Nat.blt pc 126 then (bif Nat.beq pc 125 then some (.iaload, 1, 0, 0, 0, mj_u) else none) else
        (bif Nat.beq pc 126 then some (.iload 7, 2, 7, 0, 0, mj_u) else none))) else
      (bif Nat.blt pc 129 then (bif Nat.beq pc 128 then some (.isub, 1, 0, 0, 0, mj_u) else none) else
       (bif Nat.blt pc 130 then (bif Nat.beq pc 129 then some (.iastore, 1, 0, 0, 0, mj_u) else none) else
        (bif Nat.beq pc 130 then some (.iload 5, 2, 5, 0, 0, mj_u) else none))))) else
    (bif Nat.blt pc 143 then (bif Nat.blt pc 135 then (bif Nat.blt pc 134 then (bif Nat.beq pc 132 then some (.iload 7, 2, 7, 0, 0, mj_u) else none) else
       (bif Nat.beq pc 134 then some (.iadd, 1, 0, 0, 0, mj_u) else none)) else
      (bif Nat.blt pc 137 then (bif Nat.beq pc 135 then some (.istore 5, 2, 5, 0, 0, mj_u) else none) else
       (bif Nat.blt pc 140 then (bif Nat.beq pc 137 then some (.iinc 6 1, 3, 6, 0, 0, .int 1) else none) else
        (bif Nat.beq pc 140 then some (.goto (-77), 3, 63, 0, 0, mj_u) else none)))) else
     (bif Nat.blt pc 149 then (bif Nat.blt pc 144 then (bif Nat.beq pc 143 then some (.aload_n 0, 1, 0, 0, 0, mj_u) else none) else
       (bif Nat.blt pc 146 then (bif Nat.beq pc 144 then some (.aload 4, 2, 4, 0, 0, mj_u) else none) else
        (bif Nat.beq pc 146 then some (.invokevirtual 82, 3, 125, 0, 973, mj_u) else none))) else
      (bif Nat.blt pc 150 then (bif Nat.beq pc 149 then some (.pop, 1, 0, 0, 0, mj_u) else none) else
       (bif Nat.blt pc 152 then (bif Nat.beq pc 150 then some (.iload 5, 2, 5, 0, 0, mj_u) else none) else
        (bif Nat.beq pc 152 then some (.ireturn, 1, 0, 0, 0, mj_u) else none)))))))
def m_M_wear : mj_M := (135, prog_11_method_18_code, 8, (Option.some Jvm.ClassFile.FieldType.int), 10, 1, 1024, 1022, 1023, 55, 153, k_M_wear)
/-- WatershedMapModel$Land.to()[I -/
def k_ML_to : Nat → Option mj_I := fun pc =>
  bif Nat.blt pc 24 then (bif Nat.blt pc 10 then (bif Nat.blt pc 6 then (bif Nat.blt pc 1 then (bif Nat.beq pc 0 then some (.aload_n 0, 1, 0, 0, 0, mj_u) else none) else
     (bif Nat.blt pc 4 then (bif Nat.beq pc 1 then some (.invokevirtual 45, 3, 127, 0, 981, mj_u) else none) else
      (bif Nat.beq pc 4 then some (.newarray .int, 2, 0, 0, 0, mj_u) else none))) else
    (bif Nat.blt pc 8 then (bif Nat.blt pc 7 then (bif Nat.beq pc 6 then some (.astore_n 1, 1, 1, 0, 0, mj_u) else none) else
      (bif Nat.beq pc 7 then some (.iconst 0, 1, 0, 0, 0, .int 0) else none)) else
     (bif Nat.blt pc 9 then (bif Nat.beq pc 8 then some (.istore_n 2, 1, 2, 0, 0, mj_u) else none) else
      (bif Nat.beq pc 9 then some (.iload_n 2, 1, 2, 0, 0, mj_u) else none)))) else
   (bif Nat.blt pc 18 then (bif Nat.blt pc 14 then (bif Nat.blt pc 11 then (bif Nat.beq pc 10 then some (.aload_n 0, 1, 0, 0, 0, mj_u) else none) else
      (bif Nat.beq pc 11 then some (.invokevirtual 45, 3, 127, 0, 981, mj_u) else none)) else
     (bif Nat.blt pc 17 then (bif Nat.beq pc 14 then some (.if_icmp .ge 36, 3, 50, 0, 0, mj_u) else none) else
      (bif Nat.beq pc 17 then some (.aload_n 1, 1, 1, 0, 0, mj_u) else none))) else
    (bif Nat.blt pc 20 then (bif Nat.blt pc 19 then (bif Nat.beq pc 18 then some (.iload_n 2, 1, 2, 0, 0, mj_u) else none) else
      (bif Nat.beq pc 19 then some (.aload_n 0, 1, 0, 0, 0, mj_u) else none)) else
     (bif Nat.blt pc 21 then (bif Nat.beq pc 20 then some (.iload_n 2, 1, 2, 0, 0, mj_u) else none) else
      (bif Nat.beq pc 21 then some (.invokevirtual 56, 3, 137, 0, 1029, mj_u) else none))))) else
  (bif Nat.blt pc 36 then (bif Nat.blt pc 30 then (bif Nat.blt pc 26 then (bif Nat.beq pc 24 then some (.bipush 8, 2, 0, 0, 0, .int 8) else none) else
     (bif Nat.blt pc 29 then (bif Nat.beq pc 26 then some (.if_icmp .ge 16, 3, 42, 0, 0, mj_u) else none) else
      (bif Nat.beq pc 29 then some (.aload_n 0, 1, 0, 0, 0, mj_u) else none))) else
    (bif Nat.blt pc 32 then (bif Nat.blt pc 31 then (bif Nat.beq pc 30 then some (.iload_n 2, 1, 2, 0, 0, mj_u) else none) else
      (bif Nat.beq pc 31 then some (.aload_n 0, 1, 0, 0, 0, mj_u) else none)) else
     (bif Nat.blt pc 33 then (bif Nat.beq pc 32 then some (.iload_n 2, 1, 2, 0, 0, mj_u) else none) else
      (bif Nat.beq pc 33 then some (.invokevirtual 56, 3, 137, 0, 1029, mj_u) else none)))) else
   (bif Nat.blt pc 44 then (bif Nat.blt pc 42 then (bif Nat.blt pc 39 then (bif Nat.beq pc 36 then some (.invokevirtual 53, 3, 134, 0, 1037, mj_u) else none) else
      (bif Nat.beq pc 39 then some (.goto 4, 3, 43, 0, 0, mj_u) else none)) else
     (bif Nat.blt pc 43 then (bif Nat.beq pc 42 then some (.iconst (-1), 1, 0, 0, 0, .int (-1)) else none) else
      (bif Nat.beq pc 43 then some (.iastore, 1, 0, 0, 0, mj_u) else none))) else
    (bif Nat.blt pc 50 then (bif Nat.blt pc 47 then (bif Nat.beq pc 44 then some (.iinc 2 1, 3, 2, 0, 0, .int 1) else none) else
      (bif Nat.beq pc 47 then some (.goto (-38), 3, 9, 0, 0, mj_u) else none)) else
     (bif Nat.blt pc 51 then (bif Nat.beq pc 50 then some (.aload_n 1, 1, 1, 0, 0, mj_u) else none) else
      (bif Nat.beq pc 51 then some (.areturn, 1, 0, 0, 0, mj_u) else none)))))
def m_ML_to : mj_M := (136, prog_12_method_11_code, 3, (Option.some (Jvm.ClassFile.FieldType.array Jvm.ClassFile.FieldType.int)), 9, 0, 1028, 1026, 1027, 56, 52, k_ML_to)
/-- WatershedMapModel$Land.goes(I)I -/
def k_ML_goes : Nat → Option mj_I := fun pc =>
  bif Nat.blt pc 51 then (bif Nat.blt pc 23 then (bif Nat.blt pc 13 then (bif Nat.blt pc 5 then (bif Nat.blt pc 1 then (bif Nat.beq pc 0 then some (.aload_n 0, 1, 0, 0, 0, mj_u) else none) else
      (bif Nat.blt pc 2 then (bif Nat.beq pc 1 then some (.iload_n 1, 1, 1, 0, 0, mj_u) else none) else
       (bif Nat.beq pc 2 then some (.invokevirtual 49, 3, 138, 0, 1033, mj_u) else none))) else
     (bif Nat.blt pc 8 then (bif Nat.beq pc 5 then some (.ifCond .eq 8, 3, 13, 0, 0, mj_u) else none) else
      (bif Nat.blt pc 10 then (bif Nat.beq pc 8 then some (.bipush 8, 2, 0, 0, 0, .int 8) else none) else
       (bif Nat.beq pc 10 then some (.goto 5, 3, 15, 0, 0, mj_u) else none)))) else
    (bif Nat.blt pc 17 then (bif Nat.blt pc 15 then (bif Nat.beq pc 13 then some (.bipush 9, 2, 0, 0, 0, .int 9) else none) else
      (bif Nat.blt pc 16 then (bif Nat.beq pc 15 then some (.istore_n 2, 1, 2, 0, 0, mj_u) else none) else
       (bif Nat.beq pc 16 then some (.iconst 0, 1, 0, 0, 0, .int 0) else none))) else
     (bif Nat.blt pc 19 then (bif Nat.blt pc 18 then (bif Nat.beq pc 17 then some (.istore_n 3, 1, 3, 0, 0, mj_u) else none) else
       (bif Nat.beq pc 18 then some (.iconst 0, 1, 0, 0, 0, .int 0) else none)) else
      (bif Nat.blt pc 21 then (bif Nat.beq pc 19 then some (.istore 4, 2, 4, 0, 0, mj_u) else none) else
       (bif Nat.beq pc 21 then some (.iload 4, 2, 4, 0, 0, mj_u) else none))))) else
   (bif Nat.blt pc 37 then (bif Nat.blt pc 29 then (bif Nat.blt pc 25 then (bif Nat.beq pc 23 then some (.bipush 8, 2, 0, 0, 0, .int 8) else none) else
      (bif Nat.blt pc 28 then (bif Nat.beq pc 25 then some (.if_icmp .ge 73, 3, 98, 0, 0, mj_u) else none) else
       (bif Nat.beq pc 28 then some (.aload_n 0, 1, 0, 0, 0, mj_u) else none))) else
     (bif Nat.blt pc 32 then (bif Nat.blt pc 30 then (bif Nat.beq pc 29 then some (.iload_n 1, 1, 1, 0, 0, mj_u) else none) else
       (bif Nat.beq pc 30 then some (.iload 4, 2, 4, 0, 0, mj_u) else none)) else
      (bif Nat.blt pc 35 then (bif Nat.beq pc 32 then some (.invokevirtual 53, 3, 134, 0, 1037, mj_u) else none) else
       (bif Nat.beq pc 35 then some (.istore 5, 2, 5, 0, 0, mj_u) else none)))) else
    (bif Nat.blt pc 43 then (bif Nat.blt pc 39 then (bif Nat.beq pc 37 then some (.iload 5, 2, 5, 0, 0, mj_u) else none) else
      (bif Nat.blt pc 42 then (bif Nat.beq pc 39 then some (.ifCond .ge 7, 3, 46, 0, 0, mj_u) else none) else
       (bif Nat.beq pc 42 then some (.iconst 0, 1, 0, 0, 0, .int 0) else none))) else
     (bif Nat.blt pc 47 then (bif Nat.blt pc 46 then (bif Nat.beq pc 43 then some (.goto 32, 3, 75, 0, 0, mj_u) else none) else
       (bif Nat.beq pc 46 then some (.aload_n 0, 1, 0, 0, 0, mj_u) else none)) else
      (bif Nat.blt pc 50 then (bif Nat.beq pc 47 then some (.getfield 18, 3, 9, 2, 895, .null) else none) else
       (bif Nat.beq pc 50 then some (.iload_n 1, 1, 1, 0, 0, mj_u) else none)))))) else
  (bif Nat.blt pc 74 then (bif Nat.blt pc 60 then (bif Nat.blt pc 56 then (bif Nat.blt pc 52 then (bif Nat.beq pc 51 then some (.iaload, 1, 0, 0, 0, mj_u) else none) else
      (bif Nat.blt pc 53 then (bif Nat.beq pc 52 then some (.aload_n 0, 1, 0, 0, 0, mj_u) else none) else
       (bif Nat.beq pc 53 then some (.getfield 18, 3, 9, 2, 895, .null) else none))) else
     (bif Nat.blt pc 58 then (bif Nat.beq pc 56 then some (.iload 5, 2, 5, 0, 0, mj_u) else none) else
      (bif Nat.blt pc 59 then (bif Nat.beq pc 58 then some (.iaload, 1, 0, 0, 0, mj_u) else none) else
       (bif Nat.beq pc 59 then some (.isub, 1, 0, 0, 0, mj_u) else none)))) else
    (bif Nat.blt pc 64 then (bif Nat.blt pc 62 then (bif Nat.beq pc 60 then some (.iload 4, 2, 4, 0, 0, mj_u) else none) else
      (bif Nat.blt pc 63 then (bif Nat.beq pc 62 then some (.iconst 2, 1, 0, 0, 0, .int 2) else none) else
       (bif Nat.beq pc 63 then some (.irem, 1, 0, 0, 0, mj_u) else none))) else
     (bif Nat.blt pc 69 then (bif Nat.blt pc 67 then (bif Nat.beq pc 64 then some (.ifCond .ne 8, 3, 72, 0, 0, mj_u) else none) else
       (bif Nat.beq pc 67 then some (.bipush 10, 2, 0, 0, 0, .int 10) else none)) else
      (bif Nat.blt pc 72 then (bif Nat.beq pc 69 then some (.goto 5, 3, 74, 0, 0, mj_u) else none) else
       (bif Nat.beq pc 72 then some (.bipush 7, 2, 0, 0, 0, .int 7) else none))))) else
   (bif Nat.blt pc 88 then (bif Nat.blt pc 79 then (bif Nat.blt pc 75 then (bif Nat.beq pc 74 then some (.imul, 1, 0, 0, 0, mj_u) else none) else
      (bif Nat.blt pc 77 then (bif Nat.beq pc 75 then some (.istore 6, 2, 6, 0, 0, mj_u) else none) else
       (bif Nat.beq pc 77 then some (.iload 6, 2, 6, 0, 0, mj_u) else none))) else
     (bif Nat.blt pc 83 then (bif Nat.blt pc 80 then (bif Nat.beq pc 79 then some (.iload_n 3, 1, 3, 0, 0, mj_u) else none) else
       (bif Nat.beq pc 80 then some (.if_icmp .gt 6, 3, 86, 0, 0, mj_u) else none)) else
      (bif Nat.blt pc 86 then (bif Nat.beq pc 83 then some (.goto 9, 3, 92, 0, 0, mj_u) else none) else
       (bif Nat.beq pc 86 then some (.iload 6, 2, 6, 0, 0, mj_u) else none)))) else
    (bif Nat.blt pc 92 then (bif Nat.blt pc 89 then (bif Nat.beq pc 88 then some (.istore_n 3, 1, 3, 0, 0, mj_u) else none) else
      (bif Nat.blt pc 91 then (bif Nat.beq pc 89 then some (.iload 4, 2, 4, 0, 0, mj_u) else none) else
       (bif Nat.beq pc 91 then some (.istore_n 2, 1, 2, 0, 0, mj_u) else none))) else
     (bif Nat.blt pc 98 then (bif Nat.blt pc 95 then (bif Nat.beq pc 92 then some (.iinc 4 1, 3, 4, 0, 0, .int 1) else none) else
       (bif Nat.beq pc 95 then some (.goto (-74), 3, 21, 0, 0, mj_u) else none)) else
      (bif Nat.blt pc 99 then (bif Nat.beq pc 98 then some (.iload_n 2, 1, 2, 0, 0, mj_u) else none) else
       (bif Nat.beq pc 99 then some (.ireturn, 1, 0, 0, 0, mj_u) else none))))))
def m_ML_goes : mj_M := (137, prog_12_method_10_code, 7, (Option.some Jvm.ClassFile.FieldType.int), 9, 1, 1032, 1030, 1031, 56, 100, k_ML_goes)
/-- WatershedMapModel$Land.isEdge(I)Z -/
def k_ML_isEdge : Nat → Option mj_I := fun pc =>
  bif Nat.blt pc 26 then (bif Nat.blt pc 14 then (bif Nat.blt pc 6 then (bif Nat.blt pc 2 then (bif Nat.blt pc 1 then (bif Nat.beq pc 0 then some (.iload_n 1, 1, 1, 0, 0, mj_u) else none) else
      (bif Nat.beq pc 1 then some (.aload_n 0, 1, 0, 0, 0, mj_u) else none)) else
     (bif Nat.blt pc 5 then (bif Nat.beq pc 2 then some (.getfield 9, 3, 9, 0, 891, .int 0) else none) else
      (bif Nat.beq pc 5 then some (.irem, 1, 0, 0, 0, mj_u) else none))) else
    (bif Nat.blt pc 10 then (bif Nat.blt pc 9 then (bif Nat.beq pc 6 then some (.ifCond .eq 42, 3, 48, 0, 0, mj_u) else none) else
      (bif Nat.beq pc 9 then some (.iload_n 1, 1, 1, 0, 0, mj_u) else none)) else
     (bif Nat.blt pc 11 then (bif Nat.beq pc 10 then some (.aload_n 0, 1, 0, 0, 0, mj_u) else none) else
      (bif Nat.beq pc 11 then some (.getfield 9, 3, 9, 0, 891, .int 0) else none)))) else
   (bif Nat.blt pc 20 then (bif Nat.blt pc 16 then (bif Nat.blt pc 15 then (bif Nat.beq pc 14 then some (.irem, 1, 0, 0, 0, mj_u) else none) else
      (bif Nat.beq pc 15 then some (.aload_n 0, 1, 0, 0, 0, mj_u) else none)) else
     (bif Nat.blt pc 19 then (bif Nat.beq pc 16 then some (.getfield 9, 3, 9, 0, 891, .int 0) else none) else
      (bif Nat.beq pc 19 then some (.iconst 1, 1, 0, 0, 0, .int 1) else none))) else
    (bif Nat.blt pc 24 then (bif Nat.blt pc 21 then (bif Nat.beq pc 20 then some (.isub, 1, 0, 0, 0, mj_u) else none) else
      (bif Nat.beq pc 21 then some (.if_icmp .eq 27, 3, 48, 0, 0, mj_u) else none)) else
     (bif Nat.blt pc 25 then (bif Nat.beq pc 24 then some (.iload_n 1, 1, 1, 0, 0, mj_u) else none) else
      (bif Nat.beq pc 25 then some (.aload_n 0, 1, 0, 0, 0, mj_u) else none))))) else
  (bif Nat.blt pc 40 then (bif Nat.blt pc 34 then (bif Nat.blt pc 30 then (bif Nat.blt pc 29 then (bif Nat.beq pc 26 then some (.getfield 9, 3, 9, 0, 891, .int 0) else none) else
      (bif Nat.beq pc 29 then some (.idiv, 1, 0, 0, 0, mj_u) else none)) else
     (bif Nat.blt pc 33 then (bif Nat.beq pc 30 then some (.ifCond .eq 18, 3, 48, 0, 0, mj_u) else none) else
      (bif Nat.beq pc 33 then some (.iload_n 1, 1, 1, 0, 0, mj_u) else none))) else
    (bif Nat.blt pc 38 then (bif Nat.blt pc 35 then (bif Nat.beq pc 34 then some (.aload_n 0, 1, 0, 0, 0, mj_u) else none) else
      (bif Nat.beq pc 35 then some (.getfield 9, 3, 9, 0, 891, .int 0) else none)) else
     (bif Nat.blt pc 39 then (bif Nat.beq pc 38 then some (.idiv, 1, 0, 0, 0, mj_u) else none) else
      (bif Nat.beq pc 39 then some (.aload_n 0, 1, 0, 0, 0, mj_u) else none)))) else
   (bif Nat.blt pc 48 then (bif Nat.blt pc 44 then (bif Nat.blt pc 43 then (bif Nat.beq pc 40 then some (.getfield 15, 3, 9, 1, 893, .int 0) else none) else
      (bif Nat.beq pc 43 then some (.iconst 1, 1, 0, 0, 0, .int 1) else none)) else
     (bif Nat.blt pc 45 then (bif Nat.beq pc 44 then some (.isub, 1, 0, 0, 0, mj_u) else none) else
      (bif Nat.beq pc 45 then some (.if_icmp .ne 7, 3, 52, 0, 0, mj_u) else none))) else
    (bif Nat.blt pc 52 then (bif Nat.blt pc 49 then (bif Nat.beq pc 48 then some (.iconst 1, 1, 0, 0, 0, .int 1) else none) else
      (bif Nat.beq pc 49 then some (.goto 4, 3, 53, 0, 0, mj_u) else none)) else
     (bif Nat.blt pc 53 then (bif Nat.beq pc 52 then some (.iconst 0, 1, 0, 0, 0, .int 0) else none) else
      (bif Nat.beq pc 53 then some (.ireturn, 1, 0, 0, 0, mj_u) else none)))))
def m_ML_isEdge : mj_M := (138, prog_12_method_4_code, 2, (Option.some Jvm.ClassFile.FieldType.boolean), 9, 1, 1036, 1034, 1035, 56, 54, k_ML_isEdge)
/-- WatershedMapModel$Land.flows([I)[I -/
def k_ML_flows : Nat → Option mj_I := fun pc =>
  bif Nat.blt pc 26 then (bif Nat.blt pc 10 then (bif Nat.blt pc 6 then (bif Nat.blt pc 1 then (bif Nat.beq pc 0 then some (.aload_n 0, 1, 0, 0, 0, mj_u) else none) else
     (bif Nat.blt pc 4 then (bif Nat.beq pc 1 then some (.invokevirtual 45, 3, 127, 0, 981, mj_u) else none) else
      (bif Nat.beq pc 4 then some (.newarray .int, 2, 0, 0, 0, mj_u) else none))) else
    (bif Nat.blt pc 8 then (bif Nat.blt pc 7 then (bif Nat.beq pc 6 then some (.astore_n 2, 1, 2, 0, 0, mj_u) else none) else
      (bif Nat.beq pc 7 then some (.iconst 0, 1, 0, 0, 0, .int 0) else none)) else
     (bif Nat.blt pc 9 then (bif Nat.beq pc 8 then some (.istore_n 3, 1, 3, 0, 0, mj_u) else none) else
      (bif Nat.beq pc 9 then some (.iload_n 3, 1, 3, 0, 0, mj_u) else none)))) else
   (bif Nat.blt pc 18 then (bif Nat.blt pc 14 then (bif Nat.blt pc 11 then (bif Nat.beq pc 10 then some (.aload_n 0, 1, 0, 0, 0, mj_u) else none) else
      (bif Nat.beq pc 11 then some (.invokevirtual 45, 3, 127, 0, 981, mj_u) else none)) else
     (bif Nat.blt pc 17 then (bif Nat.beq pc 14 then some (.if_icmp .ge 34, 3, 48, 0, 0, mj_u) else none) else
      (bif Nat.beq pc 17 then some (.iload_n 3, 1, 3, 0, 0, mj_u) else none))) else
    (bif Nat.blt pc 22 then (bif Nat.blt pc 20 then (bif Nat.beq pc 18 then some (.istore 4, 2, 4, 0, 0, mj_u) else none) else
      (bif Nat.beq pc 20 then some (.iload 4, 2, 4, 0, 0, mj_u) else none)) else
     (bif Nat.blt pc 25 then (bif Nat.beq pc 22 then some (.ifCond .lt 20, 3, 42, 0, 0, mj_u) else none) else
      (bif Nat.beq pc 25 then some (.aload_n 2, 1, 2, 0, 0, mj_u) else none))))) else
  (bif Nat.blt pc 34 then (bif Nat.blt pc 30 then (bif Nat.blt pc 28 then (bif Nat.beq pc 26 then some (.iload 4, 2, 4, 0, 0, mj_u) else none) else
     (bif Nat.blt pc 29 then (bif Nat.beq pc 28 then some (.dup2, 1, 0, 0, 0, mj_u) else none) else
      (bif Nat.beq pc 29 then some (.iaload, 1, 0, 0, 0, mj_u) else none))) else
    (bif Nat.blt pc 32 then (bif Nat.blt pc 31 then (bif Nat.beq pc 30 then some (.iconst 1, 1, 0, 0, 0, .int 1) else none) else
      (bif Nat.beq pc 31 then some (.iadd, 1, 0, 0, 0, mj_u) else none)) else
     (bif Nat.blt pc 33 then (bif Nat.beq pc 32 then some (.iastore, 1, 0, 0, 0, mj_u) else none) else
      (bif Nat.beq pc 33 then some (.aload_n 1, 1, 1, 0, 0, mj_u) else none)))) else
   (bif Nat.blt pc 42 then (bif Nat.blt pc 37 then (bif Nat.blt pc 36 then (bif Nat.beq pc 34 then some (.iload 4, 2, 4, 0, 0, mj_u) else none) else
      (bif Nat.beq pc 36 then some (.iaload, 1, 0, 0, 0, mj_u) else none)) else
     (bif Nat.blt pc 39 then (bif Nat.beq pc 37 then some (.istore 4, 2, 4, 0, 0, mj_u) else none) else
      (bif Nat.beq pc 39 then some (.goto (-19), 3, 20, 0, 0, mj_u) else none))) else
    (bif Nat.blt pc 48 then (bif Nat.blt pc 45 then (bif Nat.beq pc 42 then some (.iinc 3 1, 3, 3, 0, 0, .int 1) else none) else
      (bif Nat.beq pc 45 then some (.goto (-36), 3, 9, 0, 0, mj_u) else none)) else
     (bif Nat.blt pc 49 then (bif Nat.beq pc 48 then some (.aload_n 2, 1, 2, 0, 0, mj_u) else none) else
      (bif Nat.beq pc 49 then some (.areturn, 1, 0, 0, 0, mj_u) else none)))))
def m_ML_flows : mj_M := (139, prog_12_method_12_code, 5, (Option.some (Jvm.ClassFile.FieldType.array Jvm.ClassFile.FieldType.int)), 9, 1, 1041, 1039, 1040, 56, 50, k_ML_flows)
/-- WatershedMapModel.fill()I -/
def k_M_fill : Nat → Option mj_I := fun pc =>
  bif Nat.blt pc 13 then (bif Nat.blt pc 5 then (bif Nat.blt pc 1 then (bif Nat.beq pc 0 then some (.aload_n 0, 1, 0, 0, 0, mj_u) else none) else
    (bif Nat.blt pc 2 then (bif Nat.beq pc 1 then some (.iconst 0, 1, 0, 0, 0, .int 0) else none) else
     (bif Nat.beq pc 2 then some (.putfield 31, 3, 10, 0, 904, .int 0) else none))) else
   (bif Nat.blt pc 9 then (bif Nat.blt pc 6 then (bif Nat.beq pc 5 then some (.aload_n 0, 1, 0, 0, 0, mj_u) else none) else
     (bif Nat.beq pc 6 then some (.getfield 23, 3, 10, 1, 905, .null) else none)) else
    (bif Nat.blt pc 12 then (bif Nat.beq pc 9 then some (.invokevirtual 110, 3, 141, 0, 1046, mj_u) else none) else
     (bif Nat.beq pc 12 then some (.istore_n 1, 1, 1, 0, 0, mj_u) else none)))) else
  (bif Nat.blt pc 21 then (bif Nat.blt pc 15 then (bif Nat.blt pc 14 then (bif Nat.beq pc 13 then some (.aload_n 0, 1, 0, 0, 0, mj_u) else none) else
     (bif Nat.beq pc 14 then some (.aload_n 0, 1, 0, 0, 0, mj_u) else none)) else
    (bif Nat.blt pc 18 then (bif Nat.beq pc 15 then some (.getfield 23, 3, 10, 1, 905, .null) else none) else
     (bif Nat.beq pc 18 then some (.invokevirtual 113, 3, 142, 0, 1055, mj_u) else none))) else
   (bif Nat.blt pc 25 then (bif Nat.blt pc 24 then (bif Nat.beq pc 21 then some (.invokevirtual 82, 3, 125, 0, 973, mj_u) else none) else
     (bif Nat.beq pc 24 then some (.pop, 1, 0, 0, 0, mj_u) else none)) else
    (bif Nat.blt pc 26 then (bif Nat.beq pc 25 then some (.iload_n 1, 1, 1, 0, 0, mj_u) else none) else
     (bif Nat.beq pc 26 then some (.ireturn, 1, 0, 0, 0, mj_u) else none))))
def m_M_fill : mj_M := (140, prog_11_method_19_code, 2, (Option.some Jvm.ClassFile.FieldType.int), 10, 0, 1045, 1043, 1044, 55, 27, k_M_fill)
/-- WatershedMapModel$Land.volume()I -/
def k_ML_volume : Nat → Option mj_I := fun pc =>
  bif Nat.blt pc 19 then (bif Nat.blt pc 8 then (bif Nat.blt pc 3 then (bif Nat.blt pc 1 then (bif Nat.beq pc 0 then some (.iconst 0, 1, 0, 0, 0, .int 0) else none) else
     (bif Nat.blt pc 2 then (bif Nat.beq pc 1 then some (.istore_n 1, 1, 1, 0, 0, mj_u) else none) else
      (bif Nat.beq pc 2 then some (.aload_n 0, 1, 0, 0, 0, mj_u) else none))) else
    (bif Nat.blt pc 6 then (bif Nat.beq pc 3 then some (.invokevirtual 64, 3, 142, 0, 1050, mj_u) else none) else
     (bif Nat.blt pc 7 then (bif Nat.beq pc 6 then some (.astore_n 2, 1, 2, 0, 0, mj_u) else none) else
      (bif Nat.beq pc 7 then some (.iconst 0, 1, 0, 0, 0, .int 0) else none)))) else
   (bif Nat.blt pc 11 then (bif Nat.blt pc 9 then (bif Nat.beq pc 8 then some (.istore_n 3, 1, 3, 0, 0, mj_u) else none) else
     (bif Nat.blt pc 10 then (bif Nat.beq pc 9 then some (.iload_n 3, 1, 3, 0, 0, mj_u) else none) else
      (bif Nat.beq pc 10 then some (.aload_n 0, 1, 0, 0, 0, mj_u) else none))) else
    (bif Nat.blt pc 17 then (bif Nat.blt pc 14 then (bif Nat.beq pc 11 then some (.invokevirtual 45, 3, 127, 0, 981, mj_u) else none) else
      (bif Nat.beq pc 14 then some (.if_icmp .ge 22, 3, 36, 0, 0, mj_u) else none)) else
     (bif Nat.blt pc 18 then (bif Nat.beq pc 17 then some (.iload_n 1, 1, 1, 0, 0, mj_u) else none) else
      (bif Nat.beq pc 18 then some (.aload_n 2, 1, 2, 0, 0, mj_u) else none))))) else
  (bif Nat.blt pc 27 then (bif Nat.blt pc 22 then (bif Nat.blt pc 20 then (bif Nat.beq pc 19 then some (.iload_n 3, 1, 3, 0, 0, mj_u) else none) else
     (bif Nat.blt pc 21 then (bif Nat.beq pc 20 then some (.iaload, 1, 0, 0, 0, mj_u) else none) else
      (bif Nat.beq pc 21 then some (.aload_n 0, 1, 0, 0, 0, mj_u) else none))) else
    (bif Nat.blt pc 25 then (bif Nat.beq pc 22 then some (.getfield 18, 3, 9, 2, 895, .null) else none) else
     (bif Nat.blt pc 26 then (bif Nat.beq pc 25 then some (.iload_n 3, 1, 3, 0, 0, mj_u) else none) else
      (bif Nat.beq pc 26 then some (.iaload, 1, 0, 0, 0, mj_u) else none)))) else
   (bif Nat.blt pc 30 then (bif Nat.blt pc 28 then (bif Nat.beq pc 27 then some (.isub, 1, 0, 0, 0, mj_u) else none) else
     (bif Nat.blt pc 29 then (bif Nat.beq pc 28 then some (.iadd, 1, 0, 0, 0, mj_u) else none) else
      (bif Nat.beq pc 29 then some (.istore_n 1, 1, 1, 0, 0, mj_u) else none))) else
    (bif Nat.blt pc 36 then (bif Nat.blt pc 33 then (bif Nat.beq pc 30 then some (.iinc 3 1, 3, 3, 0, 0, .int 1) else none) else
      (bif Nat.beq pc 33 then some (.goto (-24), 3, 9, 0, 0, mj_u) else none)) else
     (bif Nat.blt pc 37 then (bif Nat.beq pc 36 then some (.iload_n 1, 1, 1, 0, 0, mj_u) else none) else
      (bif Nat.beq pc 37 then some (.ireturn, 1, 0, 0, 0, mj_u) else none)))))
def m_ML_volume : mj_M := (141, prog_12_method_17_code, 4, (Option.some Jvm.ClassFile.FieldType.int), 9, 0, 1049, 1047, 1048, 56, 38, k_ML_volume)
/-- WatershedMapModel$Land.levels()[I -/
def k_ML_levels : Nat → Option mj_I := fun pc =>
  bif Nat.blt pc 91 then (bif Nat.blt pc 43 then (bif Nat.blt pc 18 then (bif Nat.blt pc 11 then (bif Nat.blt pc 6 then (bif Nat.blt pc 1 then (bif Nat.beq pc 0 then some (.aload_n 0, 1, 0, 0, 0, mj_u) else none) else
       (bif Nat.blt pc 4 then (bif Nat.beq pc 1 then some (.invokevirtual 45, 3, 127, 0, 981, mj_u) else none) else
        (bif Nat.beq pc 4 then some (.newarray .int, 2, 0, 0, 0, mj_u) else none))) else
      (bif Nat.blt pc 7 then (bif Nat.beq pc 6 then some (.astore_n 1, 1, 1, 0, 0, mj_u) else none) else
       (bif Nat.blt pc 8 then (bif Nat.beq pc 7 then some (.aload_n 0, 1, 0, 0, 0, mj_u) else none) else
        (bif Nat.beq pc 8 then some (.invokevirtual 45, 3, 127, 0, 981, mj_u) else none)))) else
     (bif Nat.blt pc 15 then (bif Nat.blt pc 13 then (bif Nat.beq pc 11 then some (.newarray .boolean, 2, 0, 0, 0, mj_u) else none) else
       (bif Nat.blt pc 14 then (bif Nat.beq pc 13 then some (.astore_n 2, 1, 2, 0, 0, mj_u) else none) else
        (bif Nat.beq pc 14 then some (.iconst 0, 1, 0, 0, 0, .int 0) else none))) else
      (bif Nat.blt pc 16 then (bif Nat.beq pc 15 then some (.istore_n 3, 1, 3, 0, 0, mj_u) else none) else
       (bif Nat.blt pc 17 then (bif Nat.beq pc 16 then some (.iload_n 3, 1, 3, 0, 0, mj_u) else none) else
        (bif Nat.beq pc 17 then some (.aload_n 0, 1, 0, 0, 0, mj_u) else none))))) else
    (bif Nat.blt pc 28 then (bif Nat.blt pc 25 then (bif Nat.blt pc 21 then (bif Nat.beq pc 18 then some (.invokevirtual 45, 3, 127, 0, 981, mj_u) else none) else
       (bif Nat.blt pc 24 then (bif Nat.beq pc 21 then some (.if_icmp .ge 32, 3, 53, 0, 0, mj_u) else none) else
        (bif Nat.beq pc 24 then some (.aload_n 1, 1, 1, 0, 0, mj_u) else none))) else
      (bif Nat.blt pc 26 then (bif Nat.beq pc 25 then some (.iload_n 3, 1, 3, 0, 0, mj_u) else none) else
       (bif Nat.blt pc 27 then (bif Nat.beq pc 26 then some (.aload_n 0, 1, 0, 0, 0, mj_u) else none) else
        (bif Nat.beq pc 27 then some (.iload_n 3, 1, 3, 0, 0, mj_u) else none)))) else
     (bif Nat.blt pc 35 then (bif Nat.blt pc 31 then (bif Nat.beq pc 28 then some (.invokevirtual 49, 3, 138, 0, 1033, mj_u) else none) else
       (bif Nat.blt pc 34 then (bif Nat.beq pc 31 then some (.ifCond .eq 12, 3, 43, 0, 0, mj_u) else none) else
        (bif Nat.beq pc 34 then some (.aload_n 0, 1, 0, 0, 0, mj_u) else none))) else
      (bif Nat.blt pc 39 then (bif Nat.blt pc 38 then (bif Nat.beq pc 35 then some (.getfield 18, 3, 9, 2, 895, .null) else none) else
        (bif Nat.beq pc 38 then some (.iload_n 3, 1, 3, 0, 0, mj_u) else none)) else
       (bif Nat.blt pc 40 then (bif Nat.beq pc 39 then some (.iaload, 1, 0, 0, 0, mj_u) else none) else
        (bif Nat.beq pc 40 then some (.goto 6, 3, 46, 0, 0, mj_u) else none)))))) else
   (bif Nat.blt pc 66 then (bif Nat.blt pc 55 then (bif Nat.blt pc 50 then (bif Nat.blt pc 46 then (bif Nat.beq pc 43 then some (.sipush 1000, 3, 0, 0, 0, .int 1000) else none) else
       (bif Nat.blt pc 47 then (bif Nat.beq pc 46 then some (.iastore, 1, 0, 0, 0, mj_u) else none) else
        (bif Nat.beq pc 47 then some (.iinc 3 1, 3, 3, 0, 0, .int 1) else none))) else
      (bif Nat.blt pc 53 then (bif Nat.beq pc 50 then some (.goto (-34), 3, 16, 0, 0, mj_u) else none) else
       (bif Nat.blt pc 54 then (bif Nat.beq pc 53 then some (.iconst 0, 1, 0, 0, 0, .int 0) else none) else
        (bif Nat.beq pc 54 then some (.istore_n 3, 1, 3, 0, 0, mj_u) else none)))) else
     (bif Nat.blt pc 60 then (bif Nat.blt pc 56 then (bif Nat.beq pc 55 then some (.iload_n 3, 1, 3, 0, 0, mj_u) else none) else
       (bif Nat.blt pc 57 then (bif Nat.beq pc 56 then some (.aload_n 0, 1, 0, 0, 0, mj_u) else none) else
        (bif Nat.beq pc 57 then some (.invokevirtual 45, 3, 127, 0, 981, mj_u) else none))) else
      (bif Nat.blt pc 63 then (bif Nat.beq pc 60 then some (.if_icmp .ge 125, 3, 185, 0, 0, mj_u) else none) else
       (bif Nat.blt pc 64 then (bif Nat.beq pc 63 then some (.iconst (-1), 1, 0, 0, 0, .int (-1)) else none) else
        (bif Nat.beq pc 64 then some (.istore 4, 2, 4, 0, 0, mj_u) else none))))) else
    (bif Nat.blt pc 78 then (bif Nat.blt pc 71 then (bif Nat.blt pc 67 then (bif Nat.beq pc 66 then some (.iconst 0, 1, 0, 0, 0, .int 0) else none) else
       (bif Nat.blt pc 69 then (bif Nat.beq pc 67 then some (.istore 5, 2, 5, 0, 0, mj_u) else none) else
        (bif Nat.beq pc 69 then some (.iload 5, 2, 5, 0, 0, mj_u) else none))) else
      (bif Nat.blt pc 72 then (bif Nat.beq pc 71 then some (.aload_n 0, 1, 0, 0, 0, mj_u) else none) else
       (bif Nat.blt pc 75 then (bif Nat.beq pc 72 then some (.invokevirtual 45, 3, 127, 0, 981, mj_u) else none) else
        (bif Nat.beq pc 75 then some (.if_icmp .ge 36, 3, 111, 0, 0, mj_u) else none)))) else
     (bif Nat.blt pc 82 then (bif Nat.blt pc 79 then (bif Nat.beq pc 78 then some (.aload_n 2, 1, 2, 0, 0, mj_u) else none) else
       (bif Nat.blt pc 81 then (bif Nat.beq pc 79 then some (.iload 5, 2, 5, 0, 0, mj_u) else none) else
        (bif Nat.beq pc 81 then some (.baload, 1, 0, 0, 0, mj_u) else none))) else
      (bif Nat.blt pc 87 then (bif Nat.blt pc 85 then (bif Nat.beq pc 82 then some (.ifCond .ne 23, 3, 105, 0, 0, mj_u) else none) else
        (bif Nat.beq pc 85 then some (.iload 4, 2, 4, 0, 0, mj_u) else none)) else
       (bif Nat.blt pc 90 then (bif Nat.beq pc 87 then some (.ifCond .lt 14, 3, 101, 0, 0, mj_u) else none) else
        (bif Nat.beq pc 90 then some (.aload_n 1, 1, 1, 0, 0, mj_u) else none))))))) else
  (bif Nat.blt pc 138 then (bif Nat.blt pc 114 then (bif Nat.blt pc 101 then (bif Nat.blt pc 95 then (bif Nat.blt pc 93 then (bif Nat.beq pc 91 then some (.iload 5, 2, 5, 0, 0, mj_u) else none) else
       (bif Nat.blt pc 94 then (bif Nat.beq pc 93 then some (.iaload, 1, 0, 0, 0, mj_u) else none) else
        (bif Nat.beq pc 94 then some (.aload_n 1, 1, 1, 0, 0, mj_u) else none))) else
      (bif Nat.blt pc 97 then (bif Nat.beq pc 95 then some (.iload 4, 2, 4, 0, 0, mj_u) else none) else
       (bif Nat.blt pc 98 then (bif Nat.beq pc 97 then some (.iaload, 1, 0, 0, 0, mj_u) else none) else
        (bif Nat.beq pc 98 then some (.if_icmp .ge 7, 3, 105, 0, 0, mj_u) else none)))) else
     (bif Nat.blt pc 108 then (bif Nat.blt pc 103 then (bif Nat.beq pc 101 then some (.iload 5, 2, 5, 0, 0, mj_u) else none) else
       (bif Nat.blt pc 105 then (bif Nat.beq pc 103 then some (.istore 4, 2, 4, 0, 0, mj_u) else none) else
        (bif Nat.beq pc 105 then some (.iinc 5 1, 3, 5, 0, 0, .int 1) else none))) else
      (bif Nat.blt pc 111 then (bif Nat.beq pc 108 then some (.goto (-39), 3, 69, 0, 0, mj_u) else none) else
       (bif Nat.blt pc 112 then (bif Nat.beq pc 111 then some (.aload_n 2, 1, 2, 0, 0, mj_u) else none) else
        (bif Nat.beq pc 112 then some (.iload 4, 2, 4, 0, 0, mj_u) else none))))) else
    (bif Nat.blt pc 123 then (bif Nat.blt pc 117 then (bif Nat.blt pc 115 then (bif Nat.beq pc 114 then some (.iconst 1, 1, 0, 0, 0, .int 1) else none) else
       (bif Nat.blt pc 116 then (bif Nat.beq pc 115 then some (.bastore, 1, 0, 0, 0, mj_u) else none) else
        (bif Nat.beq pc 116 then some (.iconst 0, 1, 0, 0, 0, .int 0) else none))) else
      (bif Nat.blt pc 119 then (bif Nat.beq pc 117 then some (.istore 5, 2, 5, 0, 0, mj_u) else none) else
       (bif Nat.blt pc 121 then (bif Nat.beq pc 119 then some (.iload 5, 2, 5, 0, 0, mj_u) else none) else
        (bif Nat.beq pc 121 then some (.bipush 8, 2, 0, 0, 0, .int 8) else none)))) else
     (bif Nat.blt pc 129 then (bif Nat.blt pc 126 then (bif Nat.beq pc 123 then some (.if_icmp .ge 56, 3, 179, 0, 0, mj_u) else none) else
       (bif Nat.blt pc 127 then (bif Nat.beq pc 126 then some (.aload_n 0, 1, 0, 0, 0, mj_u) else none) else
        (bif Nat.beq pc 127 then some (.iload 4, 2, 4, 0, 0, mj_u) else none))) else
      (bif Nat.blt pc 134 then (bif Nat.blt pc 131 then (bif Nat.beq pc 129 then some (.iload 5, 2, 5, 0, 0, mj_u) else none) else
        (bif Nat.beq pc 131 then some (.invokevirtual 53, 3, 134, 0, 1037, mj_u) else none)) else
       (bif Nat.blt pc 136 then (bif Nat.beq pc 134 then some (.istore 6, 2, 6, 0, 0, mj_u) else none) else
        (bif Nat.beq pc 136 then some (.iload 6, 2, 6, 0, 0, mj_u) else none)))))) else
   (bif Nat.blt pc 159 then (bif Nat.blt pc 149 then (bif Nat.blt pc 144 then (bif Nat.blt pc 141 then (bif Nat.beq pc 138 then some (.ifCond .lt 35, 3, 173, 0, 0, mj_u) else none) else
       (bif Nat.blt pc 142 then (bif Nat.beq pc 141 then some (.aload_n 2, 1, 2, 0, 0, mj_u) else none) else
        (bif Nat.beq pc 142 then some (.iload 6, 2, 6, 0, 0, mj_u) else none))) else
      (bif Nat.blt pc 145 then (bif Nat.beq pc 144 then some (.baload, 1, 0, 0, 0, mj_u) else none) else
       (bif Nat.blt pc 148 then (bif Nat.beq pc 145 then some (.ifCond .ne 28, 3, 173, 0, 0, mj_u) else none) else
        (bif Nat.beq pc 148 then some (.aload_n 1, 1, 1, 0, 0, mj_u) else none)))) else
     (bif Nat.blt pc 154 then (bif Nat.blt pc 151 then (bif Nat.beq pc 149 then some (.iload 6, 2, 6, 0, 0, mj_u) else none) else
       (bif Nat.blt pc 152 then (bif Nat.beq pc 151 then some (.aload_n 1, 1, 1, 0, 0, mj_u) else none) else
        (bif Nat.beq pc 152 then some (.iload 6, 2, 6, 0, 0, mj_u) else none))) else
      (bif Nat.blt pc 156 then (bif Nat.blt pc 155 then (bif Nat.beq pc 154 then some (.iaload, 1, 0, 0, 0, mj_u) else none) else
        (bif Nat.beq pc 155 then some (.aload_n 1, 1, 1, 0, 0, mj_u) else none)) else
       (bif Nat.blt pc 158 then (bif Nat.beq pc 156 then some (.iload 4, 2, 4, 0, 0, mj_u) else none) else
        (bif Nat.beq pc 158 then some (.iaload, 1, 0, 0, 0, mj_u) else none))))) else
    (bif Nat.blt pc 172 then (bif Nat.blt pc 165 then (bif Nat.blt pc 160 then (bif Nat.beq pc 159 then some (.aload_n 0, 1, 0, 0, 0, mj_u) else none) else
       (bif Nat.blt pc 163 then (bif Nat.beq pc 160 then some (.getfield 18, 3, 9, 2, 895, .null) else none) else
        (bif Nat.beq pc 163 then some (.iload 6, 2, 6, 0, 0, mj_u) else none))) else
      (bif Nat.blt pc 166 then (bif Nat.beq pc 165 then some (.iaload, 1, 0, 0, 0, mj_u) else none) else
       (bif Nat.blt pc 169 then (bif Nat.beq pc 166 then some (.invokestatic 42, 3, 26, 0, 989, mj_u) else none) else
        (bif Nat.beq pc 169 then some (.invokestatic 36, 3, 59, 0, 1054, mj_u) else none)))) else
     (bif Nat.blt pc 179 then (bif Nat.blt pc 173 then (bif Nat.beq pc 172 then some (.iastore, 1, 0, 0, 0, mj_u) else none) else
       (bif Nat.blt pc 176 then (bif Nat.beq pc 173 then some (.iinc 5 2, 3, 5, 0, 0, .int 2) else none) else
        (bif Nat.beq pc 176 then some (.goto (-57), 3, 119, 0, 0, mj_u) else none))) else
      (bif Nat.blt pc 185 then (bif Nat.blt pc 182 then (bif Nat.beq pc 179 then some (.iinc 3 1, 3, 3, 0, 0, .int 1) else none) else
        (bif Nat.beq pc 182 then some (.goto (-127), 3, 55, 0, 0, mj_u) else none)) else
       (bif Nat.blt pc 186 then (bif Nat.beq pc 185 then some (.aload_n 1, 1, 1, 0, 0, mj_u) else none) else
        (bif Nat.beq pc 186 then some (.areturn, 1, 0, 0, 0, mj_u) else none)))))))
def m_ML_levels : mj_M := (142, prog_12_method_16_code, 7, (Option.some (Jvm.ClassFile.FieldType.array Jvm.ClassFile.FieldType.int)), 9, 0, 1053, 1051, 1052, 56, 187, k_ML_levels)
/-- WatershedMapModel.setBrook(I)I -/
def k_M_setBrook : Nat → Option mj_I := fun pc =>
  bif Nat.blt pc 20 then (bif Nat.blt pc 8 then (bif Nat.blt pc 2 then (bif Nat.blt pc 1 then (bif Nat.beq pc 0 then some (.aload_n 0, 1, 0, 0, 0, mj_u) else none) else
     (bif Nat.beq pc 1 then some (.iload_n 1, 1, 1, 0, 0, mj_u) else none)) else
    (bif Nat.blt pc 3 then (bif Nat.beq pc 2 then some (.iconst 1, 1, 0, 0, 0, .int 1) else none) else
     (bif Nat.blt pc 5 then (bif Nat.beq pc 3 then some (.bipush 100, 2, 0, 0, 0, .int 100) else none) else
      (bif Nat.beq pc 5 then some (.invokestatic 41, 3, 115, 0, 922, mj_u) else none)))) else
   (bif Nat.blt pc 15 then (bif Nat.blt pc 11 then (bif Nat.beq pc 8 then some (.ifCond .ne 7, 3, 15, 0, 0, mj_u) else none) else
     (bif Nat.blt pc 12 then (bif Nat.beq pc 11 then some (.iconst 1, 1, 0, 0, 0, .int 1) else none) else
      (bif Nat.beq pc 12 then some (.goto 4, 3, 16, 0, 0, mj_u) else none))) else
    (bif Nat.blt pc 16 then (bif Nat.beq pc 15 then some (.iconst 0, 1, 0, 0, 0, .int 0) else none) else
     (bif Nat.blt pc 17 then (bif Nat.beq pc 16 then some (.iconst 1, 1, 0, 0, 0, .int 1) else none) else
      (bif Nat.beq pc 17 then some (.invokevirtual 52, 3, 116, 0, 925, mj_u) else none))))) else
  (bif Nat.blt pc 29 then (bif Nat.blt pc 24 then (bif Nat.blt pc 23 then (bif Nat.beq pc 20 then some (.ifCond .eq 5, 3, 25, 0, 0, mj_u) else none) else
     (bif Nat.beq pc 23 then some (.iconst 0, 1, 0, 0, 0, .int 0) else none)) else
    (bif Nat.blt pc 25 then (bif Nat.beq pc 24 then some (.ireturn, 1, 0, 0, 0, mj_u) else none) else
     (bif Nat.blt pc 26 then (bif Nat.beq pc 25 then some (.aload_n 0, 1, 0, 0, 0, mj_u) else none) else
      (bif Nat.beq pc 26 then some (.getfield 27, 3, 10, 2, 906, .int 0) else none)))) else
   (bif Nat.blt pc 32 then (bif Nat.blt pc 30 then (bif Nat.beq pc 29 then some (.istore_n 2, 1, 2, 0, 0, mj_u) else none) else
     (bif Nat.blt pc 31 then (bif Nat.beq pc 30 then some (.aload_n 0, 1, 0, 0, 0, mj_u) else none) else
      (bif Nat.beq pc 31 then some (.iload_n 1, 1, 1, 0, 0, mj_u) else none))) else
    (bif Nat.blt pc 35 then (bif Nat.beq pc 32 then some (.putfield 27, 3, 10, 2, 906, .int 0) else none) else
     (bif Nat.blt pc 36 then (bif Nat.beq pc 35 then some (.iload_n 2, 1, 2, 0, 0, mj_u) else none) else
      (bif Nat.beq pc 36 then some (.ireturn, 1, 0, 0, 0, mj_u) else none)))))
def m_M_setBrook : mj_M := (143, prog_11_method_20_code, 3, (Option.some Jvm.ClassFile.FieldType.int), 10, 1, 1059, 1057, 1058, 55, 37, k_M_setBrook)
/-- WatershedMapModel.map(I)I -/
def k_M_map : Nat → Option mj_I := fun pc =>
  bif Nat.blt pc 15 then (bif Nat.blt pc 4 then (bif Nat.blt pc 2 then (bif Nat.blt pc 1 then (bif Nat.beq pc 0 then some (.aload_n 0, 1, 0, 0, 0, mj_u) else none) else
     (bif Nat.beq pc 1 then some (.iload_n 1, 1, 1, 0, 0, mj_u) else none)) else
    (bif Nat.blt pc 3 then (bif Nat.beq pc 2 then some (.iconst 0, 1, 0, 0, 0, .int 0) else none) else
     (bif Nat.beq pc 3 then some (.iconst 4, 1, 0, 0, 0, .int 4) else none))) else
   (bif Nat.blt pc 10 then (bif Nat.blt pc 7 then (bif Nat.beq pc 4 then some (.invokestatic 41, 3, 115, 0, 922, mj_u) else none) else
     (bif Nat.beq pc 7 then some (.ifCond .ne 7, 3, 14, 0, 0, mj_u) else none)) else
    (bif Nat.blt pc 11 then (bif Nat.beq pc 10 then some (.iconst 1, 1, 0, 0, 0, .int 1) else none) else
     (bif Nat.blt pc 14 then (bif Nat.beq pc 11 then some (.goto 4, 3, 15, 0, 0, mj_u) else none) else
      (bif Nat.beq pc 14 then some (.iconst 0, 1, 0, 0, 0, .int 0) else none))))) else
  (bif Nat.blt pc 23 then (bif Nat.blt pc 19 then (bif Nat.blt pc 16 then (bif Nat.beq pc 15 then some (.iconst 1, 1, 0, 0, 0, .int 1) else none) else
     (bif Nat.beq pc 16 then some (.invokevirtual 52, 3, 116, 0, 925, mj_u) else none)) else
    (bif Nat.blt pc 22 then (bif Nat.beq pc 19 then some (.ifCond .eq 7, 3, 26, 0, 0, mj_u) else none) else
     (bif Nat.beq pc 22 then some (.iconst 0, 1, 0, 0, 0, .int 0) else none))) else
   (bif Nat.blt pc 27 then (bif Nat.blt pc 26 then (bif Nat.beq pc 23 then some (.goto 8, 3, 31, 0, 0, mj_u) else none) else
     (bif Nat.beq pc 26 then some (.aload_n 0, 1, 0, 0, 0, mj_u) else none)) else
    (bif Nat.blt pc 28 then (bif Nat.beq pc 27 then some (.iload_n 1, 1, 1, 0, 0, mj_u) else none) else
     (bif Nat.blt pc 31 then (bif Nat.beq pc 28 then some (.invokevirtual 122, 3, 145, 0, 1064, mj_u) else none) else
      (bif Nat.beq pc 31 then some (.ireturn, 1, 0, 0, 0, mj_u) else none)))))
def m_M_map : mj_M := (144, prog_11_method_22_code, 2, (Option.some Jvm.ClassFile.FieldType.int), 10, 1, 1063, 1061, 1062, 55, 32, k_M_map)
/-- WatershedMapModel.of(I)I -/
def k_M_of : Nat → Option mj_I := fun pc =>
  bif Nat.blt pc 29 then (bif Nat.blt pc 14 then (bif Nat.blt pc 5 then (bif Nat.blt pc 3 then (bif Nat.blt pc 1 then (bif Nat.beq pc 0 then some (.iconst 5, 1, 0, 0, 0, .int 5) else none) else
      (bif Nat.beq pc 1 then some (.newarray .int, 2, 0, 0, 0, mj_u) else none)) else
     (bif Nat.blt pc 4 then (bif Nat.beq pc 3 then some (.dup, 1, 0, 0, 0, mj_u) else none) else
      (bif Nat.beq pc 4 then some (.iconst 0, 1, 0, 0, 0, .int 0) else none))) else
    (bif Nat.blt pc 9 then (bif Nat.blt pc 6 then (bif Nat.beq pc 5 then some (.aload_n 0, 1, 0, 0, 0, mj_u) else none) else
      (bif Nat.beq pc 6 then some (.getfield 23, 3, 10, 1, 905, .null) else none)) else
     (bif Nat.blt pc 12 then (bif Nat.beq pc 9 then some (.getfield 38, 3, 9, 0, 892, .int 0) else none) else
      (bif Nat.blt pc 13 then (bif Nat.beq pc 12 then some (.iastore, 1, 0, 0, 0, mj_u) else none) else
       (bif Nat.beq pc 13 then some (.dup, 1, 0, 0, 0, mj_u) else none))))) else
   (bif Nat.blt pc 22 then (bif Nat.blt pc 16 then (bif Nat.blt pc 15 then (bif Nat.beq pc 14 then some (.iconst 1, 1, 0, 0, 0, .int 1) else none) else
      (bif Nat.beq pc 15 then some (.aload_n 0, 1, 0, 0, 0, mj_u) else none)) else
     (bif Nat.blt pc 19 then (bif Nat.beq pc 16 then some (.getfield 23, 3, 10, 1, 905, .null) else none) else
      (bif Nat.beq pc 19 then some (.getfield 45, 3, 9, 1, 894, .int 0) else none))) else
    (bif Nat.blt pc 24 then (bif Nat.blt pc 23 then (bif Nat.beq pc 22 then some (.iastore, 1, 0, 0, 0, mj_u) else none) else
      (bif Nat.beq pc 23 then some (.dup, 1, 0, 0, 0, mj_u) else none)) else
     (bif Nat.blt pc 25 then (bif Nat.beq pc 24 then some (.iconst 2, 1, 0, 0, 0, .int 2) else none) else
      (bif Nat.blt pc 26 then (bif Nat.beq pc 25 then some (.aload_n 0, 1, 0, 0, 0, mj_u) else none) else
       (bif Nat.beq pc 26 then some (.getfield 23, 3, 10, 1, 905, .null) else none)))))) else
  (bif Nat.blt pc 44 then (bif Nat.blt pc 35 then (bif Nat.blt pc 33 then (bif Nat.blt pc 32 then (bif Nat.beq pc 29 then some (.invokevirtual 116, 3, 146, 0, 1068, mj_u) else none) else
      (bif Nat.beq pc 32 then some (.iastore, 1, 0, 0, 0, mj_u) else none)) else
     (bif Nat.blt pc 34 then (bif Nat.beq pc 33 then some (.dup, 1, 0, 0, 0, mj_u) else none) else
      (bif Nat.beq pc 34 then some (.iconst 3, 1, 0, 0, 0, .int 3) else none))) else
    (bif Nat.blt pc 39 then (bif Nat.blt pc 36 then (bif Nat.beq pc 35 then some (.aload_n 0, 1, 0, 0, 0, mj_u) else none) else
      (bif Nat.beq pc 36 then some (.getfield 23, 3, 10, 1, 905, .null) else none)) else
     (bif Nat.blt pc 42 then (bif Nat.beq pc 39 then some (.invokevirtual 85, 3, 128, 0, 985, mj_u) else none) else
      (bif Nat.blt pc 43 then (bif Nat.beq pc 42 then some (.iastore, 1, 0, 0, 0, mj_u) else none) else
       (bif Nat.beq pc 43 then some (.dup, 1, 0, 0, 0, mj_u) else none))))) else
   (bif Nat.blt pc 53 then (bif Nat.blt pc 46 then (bif Nat.blt pc 45 then (bif Nat.beq pc 44 then some (.iconst 4, 1, 0, 0, 0, .int 4) else none) else
      (bif Nat.beq pc 45 then some (.aload_n 0, 1, 0, 0, 0, mj_u) else none)) else
     (bif Nat.blt pc 49 then (bif Nat.beq pc 46 then some (.getfield 23, 3, 10, 1, 905, .null) else none) else
      (bif Nat.blt pc 52 then (bif Nat.beq pc 49 then some (.invokevirtual 119, 3, 147, 0, 1072, mj_u) else none) else
       (bif Nat.beq pc 52 then some (.iastore, 1, 0, 0, 0, mj_u) else none)))) else
    (bif Nat.blt pc 55 then (bif Nat.blt pc 54 then (bif Nat.beq pc 53 then some (.astore_n 2, 1, 2, 0, 0, mj_u) else none) else
      (bif Nat.beq pc 54 then some (.aload_n 2, 1, 2, 0, 0, mj_u) else none)) else
     (bif Nat.blt pc 56 then (bif Nat.beq pc 55 then some (.iload_n 1, 1, 1, 0, 0, mj_u) else none) else
      (bif Nat.blt pc 57 then (bif Nat.beq pc 56 then some (.iaload, 1, 0, 0, 0, mj_u) else none) else
       (bif Nat.beq pc 57 then some (.ireturn, 1, 0, 0, 0, mj_u) else none))))))
def m_M_of : mj_M := (145, prog_11_method_21_code, 3, (Option.some Jvm.ClassFile.FieldType.int), 10, 1, 1067, 1066, 32, 55, 58, k_M_of)
/-- WatershedMapModel$Land.least()I -/
def k_ML_least : Nat → Option mj_I := fun pc =>
  bif Nat.blt pc 18 then (bif Nat.blt pc 10 then (bif Nat.blt pc 5 then (bif Nat.blt pc 3 then (bif Nat.beq pc 0 then some (.sipush 999, 3, 0, 0, 0, .int 999) else none) else
     (bif Nat.blt pc 4 then (bif Nat.beq pc 3 then some (.istore_n 1, 1, 1, 0, 0, mj_u) else none) else
      (bif Nat.beq pc 4 then some (.aload_n 0, 1, 0, 0, 0, mj_u) else none))) else
    (bif Nat.blt pc 8 then (bif Nat.beq pc 5 then some (.getfield 18, 3, 9, 2, 895, .null) else none) else
     (bif Nat.blt pc 9 then (bif Nat.beq pc 8 then some (.astore_n 2, 1, 2, 0, 0, mj_u) else none) else
      (bif Nat.beq pc 9 then some (.aload_n 2, 1, 2, 0, 0, mj_u) else none)))) else
   (bif Nat.blt pc 13 then (bif Nat.blt pc 11 then (bif Nat.beq pc 10 then some (.arraylength, 1, 0, 0, 0, mj_u) else none) else
     (bif Nat.blt pc 12 then (bif Nat.beq pc 11 then some (.istore_n 3, 1, 3, 0, 0, mj_u) else none) else
      (bif Nat.beq pc 12 then some (.iconst 0, 1, 0, 0, 0, .int 0) else none))) else
    (bif Nat.blt pc 15 then (bif Nat.beq pc 13 then some (.istore 4, 2, 4, 0, 0, mj_u) else none) else
     (bif Nat.blt pc 17 then (bif Nat.beq pc 15 then some (.iload 4, 2, 4, 0, 0, mj_u) else none) else
      (bif Nat.beq pc 17 then some (.iload_n 3, 1, 3, 0, 0, mj_u) else none))))) else
  (bif Nat.blt pc 28 then (bif Nat.blt pc 24 then (bif Nat.blt pc 21 then (bif Nat.beq pc 18 then some (.if_icmp .ge 22, 3, 40, 0, 0, mj_u) else none) else
     (bif Nat.blt pc 22 then (bif Nat.beq pc 21 then some (.aload_n 2, 1, 2, 0, 0, mj_u) else none) else
      (bif Nat.beq pc 22 then some (.iload 4, 2, 4, 0, 0, mj_u) else none))) else
    (bif Nat.blt pc 25 then (bif Nat.beq pc 24 then some (.iaload, 1, 0, 0, 0, mj_u) else none) else
     (bif Nat.blt pc 27 then (bif Nat.beq pc 25 then some (.istore 5, 2, 5, 0, 0, mj_u) else none) else
      (bif Nat.beq pc 27 then some (.iload_n 1, 1, 1, 0, 0, mj_u) else none)))) else
   (bif Nat.blt pc 34 then (bif Nat.blt pc 30 then (bif Nat.beq pc 28 then some (.iload 5, 2, 5, 0, 0, mj_u) else none) else
     (bif Nat.blt pc 33 then (bif Nat.beq pc 30 then some (.invokestatic 36, 3, 59, 0, 1054, mj_u) else none) else
      (bif Nat.beq pc 33 then some (.istore_n 1, 1, 1, 0, 0, mj_u) else none))) else
    (bif Nat.blt pc 40 then (bif Nat.blt pc 37 then (bif Nat.beq pc 34 then some (.iinc 4 1, 3, 4, 0, 0, .int 1) else none) else
      (bif Nat.beq pc 37 then some (.goto (-22), 3, 15, 0, 0, mj_u) else none)) else
     (bif Nat.blt pc 41 then (bif Nat.beq pc 40 then some (.iload_n 1, 1, 1, 0, 0, mj_u) else none) else
      (bif Nat.beq pc 41 then some (.ireturn, 1, 0, 0, 0, mj_u) else none)))))
def m_ML_least : mj_M := (146, prog_12_method_6_code, 6, (Option.some Jvm.ClassFile.FieldType.int), 9, 0, 1071, 1069, 1070, 56, 42, k_ML_least)
/-- WatershedMapModel$Land.sum()I -/
def k_ML_sum : Nat → Option mj_I := fun pc =>
  bif Nat.blt pc 16 then (bif Nat.blt pc 8 then (bif Nat.blt pc 3 then (bif Nat.blt pc 1 then (bif Nat.beq pc 0 then some (.iconst 0, 1, 0, 0, 0, .int 0) else none) else
     (bif Nat.blt pc 2 then (bif Nat.beq pc 1 then some (.istore_n 1, 1, 1, 0, 0, mj_u) else none) else
      (bif Nat.beq pc 2 then some (.aload_n 0, 1, 0, 0, 0, mj_u) else none))) else
    (bif Nat.blt pc 6 then (bif Nat.beq pc 3 then some (.getfield 18, 3, 9, 2, 895, .null) else none) else
     (bif Nat.blt pc 7 then (bif Nat.beq pc 6 then some (.astore_n 2, 1, 2, 0, 0, mj_u) else none) else
      (bif Nat.beq pc 7 then some (.aload_n 2, 1, 2, 0, 0, mj_u) else none)))) else
   (bif Nat.blt pc 11 then (bif Nat.blt pc 9 then (bif Nat.beq pc 8 then some (.arraylength, 1, 0, 0, 0, mj_u) else none) else
     (bif Nat.blt pc 10 then (bif Nat.beq pc 9 then some (.istore_n 3, 1, 3, 0, 0, mj_u) else none) else
      (bif Nat.beq pc 10 then some (.iconst 0, 1, 0, 0, 0, .int 0) else none))) else
    (bif Nat.blt pc 13 then (bif Nat.beq pc 11 then some (.istore 4, 2, 4, 0, 0, mj_u) else none) else
     (bif Nat.blt pc 15 then (bif Nat.beq pc 13 then some (.iload 4, 2, 4, 0, 0, mj_u) else none) else
      (bif Nat.beq pc 15 then some (.iload_n 3, 1, 3, 0, 0, mj_u) else none))))) else
  (bif Nat.blt pc 26 then (bif Nat.blt pc 22 then (bif Nat.blt pc 19 then (bif Nat.beq pc 16 then some (.if_icmp .ge 20, 3, 36, 0, 0, mj_u) else none) else
     (bif Nat.blt pc 20 then (bif Nat.beq pc 19 then some (.aload_n 2, 1, 2, 0, 0, mj_u) else none) else
      (bif Nat.beq pc 20 then some (.iload 4, 2, 4, 0, 0, mj_u) else none))) else
    (bif Nat.blt pc 23 then (bif Nat.beq pc 22 then some (.iaload, 1, 0, 0, 0, mj_u) else none) else
     (bif Nat.blt pc 25 then (bif Nat.beq pc 23 then some (.istore 5, 2, 5, 0, 0, mj_u) else none) else
      (bif Nat.beq pc 25 then some (.iload_n 1, 1, 1, 0, 0, mj_u) else none)))) else
   (bif Nat.blt pc 30 then (bif Nat.blt pc 28 then (bif Nat.beq pc 26 then some (.iload 5, 2, 5, 0, 0, mj_u) else none) else
     (bif Nat.blt pc 29 then (bif Nat.beq pc 28 then some (.iadd, 1, 0, 0, 0, mj_u) else none) else
      (bif Nat.beq pc 29 then some (.istore_n 1, 1, 1, 0, 0, mj_u) else none))) else
    (bif Nat.blt pc 36 then (bif Nat.blt pc 33 then (bif Nat.beq pc 30 then some (.iinc 4 1, 3, 4, 0, 0, .int 1) else none) else
      (bif Nat.beq pc 33 then some (.goto (-20), 3, 13, 0, 0, mj_u) else none)) else
     (bif Nat.blt pc 37 then (bif Nat.beq pc 36 then some (.iload_n 1, 1, 1, 0, 0, mj_u) else none) else
      (bif Nat.beq pc 37 then some (.ireturn, 1, 0, 0, 0, mj_u) else none)))))
def m_ML_sum : mj_M := (147, prog_12_method_8_code, 6, (Option.some Jvm.ClassFile.FieldType.int), 9, 0, 1075, 1073, 1074, 56, 38, k_ML_sum)
/-- WatershedMapModel.height(II)I -/
def k_M_height : Nat → Option mj_I := fun pc =>
  bif Nat.blt pc 14 then (bif Nat.blt pc 6 then (bif Nat.blt pc 2 then (bif Nat.blt pc 1 then (bif Nat.beq pc 0 then some (.aload_n 0, 1, 0, 0, 0, mj_u) else none) else
     (bif Nat.beq pc 1 then some (.iload_n 1, 1, 1, 0, 0, mj_u) else none)) else
    (bif Nat.blt pc 3 then (bif Nat.beq pc 2 then some (.iload_n 2, 1, 2, 0, 0, mj_u) else none) else
     (bif Nat.beq pc 3 then some (.invokevirtual 63, 3, 119, 0, 937, mj_u) else none))) else
   (bif Nat.blt pc 10 then (bif Nat.blt pc 9 then (bif Nat.beq pc 6 then some (.ifCond .eq 7, 3, 13, 0, 0, mj_u) else none) else
     (bif Nat.beq pc 9 then some (.iconst 0, 1, 0, 0, 0, .int 0) else none)) else
    (bif Nat.blt pc 13 then (bif Nat.beq pc 10 then some (.goto 17, 3, 27, 0, 0, mj_u) else none) else
     (bif Nat.beq pc 13 then some (.aload_n 0, 1, 0, 0, 0, mj_u) else none)))) else
  (bif Nat.blt pc 22 then (bif Nat.blt pc 20 then (bif Nat.blt pc 17 then (bif Nat.beq pc 14 then some (.getfield 23, 3, 10, 1, 905, .null) else none) else
     (bif Nat.beq pc 17 then some (.getfield 55, 3, 9, 2, 896, .null) else none)) else
    (bif Nat.blt pc 21 then (bif Nat.beq pc 20 then some (.aload_n 0, 1, 0, 0, 0, mj_u) else none) else
     (bif Nat.beq pc 21 then some (.iload_n 1, 1, 1, 0, 0, mj_u) else none))) else
   (bif Nat.blt pc 26 then (bif Nat.blt pc 23 then (bif Nat.beq pc 22 then some (.iload_n 2, 1, 2, 0, 0, mj_u) else none) else
     (bif Nat.beq pc 23 then some (.invokevirtual 66, 3, 121, 0, 945, mj_u) else none)) else
    (bif Nat.blt pc 27 then (bif Nat.beq pc 26 then some (.iaload, 1, 0, 0, 0, mj_u) else none) else
     (bif Nat.beq pc 27 then some (.ireturn, 1, 0, 0, 0, mj_u) else none))))
def m_M_height : mj_M := (148, prog_11_method_23_code, 3, (Option.some Jvm.ClassFile.FieldType.int), 10, 2, 1079, 1077, 1078, 55, 28, k_M_height)
/-- WatershedMapModel.water(III)I -/
def k_M_water : Nat → Option mj_I := fun pc =>
  bif Nat.blt pc 32 then (bif Nat.blt pc 13 then (bif Nat.blt pc 6 then (bif Nat.blt pc 2 then (bif Nat.blt pc 1 then (bif Nat.beq pc 0 then some (.aload_n 0, 1, 0, 0, 0, mj_u) else none) else
      (bif Nat.beq pc 1 then some (.iload_n 1, 1, 1, 0, 0, mj_u) else none)) else
     (bif Nat.blt pc 3 then (bif Nat.beq pc 2 then some (.iload_n 2, 1, 2, 0, 0, mj_u) else none) else
      (bif Nat.beq pc 3 then some (.invokevirtual 63, 3, 119, 0, 937, mj_u) else none))) else
    (bif Nat.blt pc 10 then (bif Nat.blt pc 9 then (bif Nat.beq pc 6 then some (.ifCond .ne 25, 3, 31, 0, 0, mj_u) else none) else
      (bif Nat.beq pc 9 then some (.aload_n 0, 1, 0, 0, 0, mj_u) else none)) else
     (bif Nat.blt pc 11 then (bif Nat.beq pc 10 then some (.iload_n 3, 1, 3, 0, 0, mj_u) else none) else
      (bif Nat.blt pc 12 then (bif Nat.beq pc 11 then some (.iconst 0, 1, 0, 0, 0, .int 0) else none) else
       (bif Nat.beq pc 12 then some (.iconst 4, 1, 0, 0, 0, .int 4) else none))))) else
   (bif Nat.blt pc 23 then (bif Nat.blt pc 19 then (bif Nat.blt pc 16 then (bif Nat.beq pc 13 then some (.invokestatic 41, 3, 115, 0, 922, mj_u) else none) else
      (bif Nat.beq pc 16 then some (.ifCond .ne 7, 3, 23, 0, 0, mj_u) else none)) else
     (bif Nat.blt pc 20 then (bif Nat.beq pc 19 then some (.iconst 1, 1, 0, 0, 0, .int 1) else none) else
      (bif Nat.beq pc 20 then some (.goto 4, 3, 24, 0, 0, mj_u) else none))) else
    (bif Nat.blt pc 25 then (bif Nat.blt pc 24 then (bif Nat.beq pc 23 then some (.iconst 0, 1, 0, 0, 0, .int 0) else none) else
      (bif Nat.beq pc 24 then some (.iconst 2, 1, 0, 0, 0, .int 2) else none)) else
     (bif Nat.blt pc 28 then (bif Nat.beq pc 25 then some (.invokevirtual 34, 3, 117, 0, 929, mj_u) else none) else
      (bif Nat.blt pc 31 then (bif Nat.beq pc 28 then some (.ifCond .eq 5, 3, 33, 0, 0, mj_u) else none) else
       (bif Nat.beq pc 31 then some (.iconst 0, 1, 0, 0, 0, .int 0) else none)))))) else
  (bif Nat.blt pc 46 then (bif Nat.blt pc 40 then (bif Nat.blt pc 34 then (bif Nat.blt pc 33 then (bif Nat.beq pc 32 then some (.ireturn, 1, 0, 0, 0, mj_u) else none) else
      (bif Nat.beq pc 33 then some (.aload_n 0, 1, 0, 0, 0, mj_u) else none)) else
     (bif Nat.blt pc 37 then (bif Nat.beq pc 34 then some (.getfield 23, 3, 10, 1, 905, .null) else none) else
      (bif Nat.beq pc 37 then some (.invokevirtual 102, 3, 136, 0, 1025, mj_u) else none))) else
    (bif Nat.blt pc 43 then (bif Nat.blt pc 42 then (bif Nat.beq pc 40 then some (.astore 4, 2, 4, 0, 0, mj_u) else none) else
      (bif Nat.beq pc 42 then some (.aload_n 0, 1, 0, 0, 0, mj_u) else none)) else
     (bif Nat.blt pc 44 then (bif Nat.beq pc 43 then some (.aload_n 0, 1, 0, 0, 0, mj_u) else none) else
      (bif Nat.blt pc 45 then (bif Nat.beq pc 44 then some (.iload_n 1, 1, 1, 0, 0, mj_u) else none) else
       (bif Nat.beq pc 45 then some (.iload_n 2, 1, 2, 0, 0, mj_u) else none))))) else
   (bif Nat.blt pc 53 then (bif Nat.blt pc 50 then (bif Nat.blt pc 49 then (bif Nat.beq pc 46 then some (.invokevirtual 66, 3, 121, 0, 945, mj_u) else none) else
      (bif Nat.beq pc 49 then some (.iload_n 3, 1, 3, 0, 0, mj_u) else none)) else
     (bif Nat.blt pc 52 then (bif Nat.beq pc 50 then some (.aload 4, 2, 4, 0, 0, mj_u) else none) else
      (bif Nat.beq pc 52 then some (.aload_n 0, 1, 0, 0, 0, mj_u) else none))) else
    (bif Nat.blt pc 58 then (bif Nat.blt pc 56 then (bif Nat.beq pc 53 then some (.getfield 23, 3, 10, 1, 905, .null) else none) else
      (bif Nat.beq pc 56 then some (.aload 4, 2, 4, 0, 0, mj_u) else none)) else
     (bif Nat.blt pc 61 then (bif Nat.beq pc 58 then some (.invokevirtual 106, 3, 139, 0, 1038, mj_u) else none) else
      (bif Nat.blt pc 64 then (bif Nat.beq pc 61 then some (.invokevirtual 139, 3, 150, 0, 1084, mj_u) else none) else
       (bif Nat.beq pc 64 then some (.ireturn, 1, 0, 0, 0, mj_u) else none))))))
def m_M_water : mj_M := (149, prog_11_method_25_code, 5, (Option.some Jvm.ClassFile.FieldType.int), 10, 3, 1083, 1081, 1082, 55, 65, k_M_water)
/-- WatershedMapModel.water(II[I[I)I -/
def k_M_water_2 : Nat → Option mj_I := fun pc =>
  bif Nat.blt pc 51 then (bif Nat.blt pc 41 then (bif Nat.blt pc 33 then (bif Nat.blt pc 1 then (bif Nat.beq pc 0 then some (.iload_n 2, 1, 2, 0, 0, mj_u) else none) else
     (bif Nat.blt pc 32 then (bif Nat.beq pc 1 then some (.tableswitch 67 0 3 #[31, 40, 45, 51], 31, 68, 0, 0, mj_u) else none) else
      (bif Nat.beq pc 32 then some (.aload_n 0, 1, 0, 0, 0, mj_u) else none))) else
    (bif Nat.blt pc 37 then (bif Nat.blt pc 36 then (bif Nat.beq pc 33 then some (.getfield 23, 3, 10, 1, 905, .null) else none) else
      (bif Nat.beq pc 36 then some (.iload_n 1, 1, 1, 0, 0, mj_u) else none)) else
     (bif Nat.blt pc 40 then (bif Nat.beq pc 37 then some (.invokevirtual 125, 3, 137, 0, 1088, mj_u) else none) else
      (bif Nat.beq pc 40 then some (.ireturn, 1, 0, 0, 0, mj_u) else none)))) else
   (bif Nat.blt pc 45 then (bif Nat.blt pc 43 then (bif Nat.beq pc 41 then some (.aload 4, 2, 4, 0, 0, mj_u) else none) else
     (bif Nat.blt pc 44 then (bif Nat.beq pc 43 then some (.iload_n 1, 1, 1, 0, 0, mj_u) else none) else
      (bif Nat.beq pc 44 then some (.iaload, 1, 0, 0, 0, mj_u) else none))) else
    (bif Nat.blt pc 47 then (bif Nat.blt pc 46 then (bif Nat.beq pc 45 then some (.ireturn, 1, 0, 0, 0, mj_u) else none) else
      (bif Nat.beq pc 46 then some (.aload_n 3, 1, 3, 0, 0, mj_u) else none)) else
     (bif Nat.blt pc 48 then (bif Nat.beq pc 47 then some (.iload_n 1, 1, 1, 0, 0, mj_u) else none) else
      (bif Nat.beq pc 48 then some (.invokestatic 128, 3, 151, 0, 1089, mj_u) else none))))) else
  (bif Nat.blt pc 63 then (bif Nat.blt pc 56 then (bif Nat.blt pc 52 then (bif Nat.beq pc 51 then some (.ireturn, 1, 0, 0, 0, mj_u) else none) else
     (bif Nat.blt pc 53 then (bif Nat.beq pc 52 then some (.aload_n 0, 1, 0, 0, 0, mj_u) else none) else
      (bif Nat.beq pc 53 then some (.getfield 23, 3, 10, 1, 905, .null) else none))) else
    (bif Nat.blt pc 59 then (bif Nat.blt pc 57 then (bif Nat.beq pc 56 then some (.aload_n 3, 1, 3, 0, 0, mj_u) else none) else
      (bif Nat.beq pc 57 then some (.aload 4, 2, 4, 0, 0, mj_u) else none)) else
     (bif Nat.blt pc 60 then (bif Nat.beq pc 59 then some (.aload_n 0, 1, 0, 0, 0, mj_u) else none) else
      (bif Nat.beq pc 60 then some (.getfield 27, 3, 10, 2, 906, .int 0) else none)))) else
   (bif Nat.blt pc 68 then (bif Nat.blt pc 64 then (bif Nat.beq pc 63 then some (.iload_n 1, 1, 1, 0, 0, mj_u) else none) else
     (bif Nat.blt pc 67 then (bif Nat.beq pc 64 then some (.invokevirtual 132, 3, 152, 0, 1092, mj_u) else none) else
      (bif Nat.beq pc 67 then some (.ireturn, 1, 0, 0, 0, mj_u) else none))) else
    (bif Nat.blt pc 70 then (bif Nat.blt pc 69 then (bif Nat.beq pc 68 then some (.aload_n 3, 1, 3, 0, 0, mj_u) else none) else
      (bif Nat.beq pc 69 then some (.iload_n 1, 1, 1, 0, 0, mj_u) else none)) else
     (bif Nat.blt pc 73 then (bif Nat.beq pc 70 then some (.invokestatic 136, 3, 153, 0, 1097, mj_u) else none) else
      (bif Nat.beq pc 73 then some (.ireturn, 1, 0, 0, 0, mj_u) else none)))))
def m_M_water_2 : mj_M := (150, prog_11_method_24_code, 5, (Option.some Jvm.ClassFile.FieldType.int), 10, 4, 1087, 1086, 33, 55, 74, k_M_water_2)
/-- WatershedMapModel$Land.end([II)I static -/
def k_ML_end : Nat → Option mj_I := fun pc =>
  bif Nat.blt pc 8 then (bif Nat.blt pc 3 then (bif Nat.blt pc 1 then (bif Nat.beq pc 0 then some (.iload_n 1, 1, 1, 0, 0, mj_u) else none) else
    (bif Nat.blt pc 2 then (bif Nat.beq pc 1 then some (.istore_n 2, 1, 2, 0, 0, mj_u) else none) else
     (bif Nat.beq pc 2 then some (.aload_n 0, 1, 0, 0, 0, mj_u) else none))) else
   (bif Nat.blt pc 4 then (bif Nat.beq pc 3 then some (.iload_n 2, 1, 2, 0, 0, mj_u) else none) else
    (bif Nat.blt pc 5 then (bif Nat.beq pc 4 then some (.iaload, 1, 0, 0, 0, mj_u) else none) else
     (bif Nat.beq pc 5 then some (.ifCond .lt 10, 3, 15, 0, 0, mj_u) else none)))) else
  (bif Nat.blt pc 11 then (bif Nat.blt pc 9 then (bif Nat.beq pc 8 then some (.aload_n 0, 1, 0, 0, 0, mj_u) else none) else
    (bif Nat.blt pc 10 then (bif Nat.beq pc 9 then some (.iload_n 2, 1, 2, 0, 0, mj_u) else none) else
     (bif Nat.beq pc 10 then some (.iaload, 1, 0, 0, 0, mj_u) else none))) else
   (bif Nat.blt pc 15 then (bif Nat.blt pc 12 then (bif Nat.beq pc 11 then some (.istore_n 2, 1, 2, 0, 0, mj_u) else none) else
     (bif Nat.beq pc 12 then some (.goto (-10), 3, 2, 0, 0, mj_u) else none)) else
    (bif Nat.blt pc 16 then (bif Nat.beq pc 15 then some (.iload_n 2, 1, 2, 0, 0, mj_u) else none) else
     (bif Nat.beq pc 16 then some (.ireturn, 1, 0, 0, 0, mj_u) else none))))
def m_ML_end : mj_M := (151, prog_12_method_13_code, 3, (Option.some Jvm.ClassFile.FieldType.int), 9, 2, 1091, 1090, 0, 56, 17, k_ML_end)
/-- WatershedMapModel$Land.rank([I[III)I -/
def k_ML_rank : Nat → Option mj_I := fun pc =>
  bif Nat.blt pc 59 then (bif Nat.blt pc 27 then (bif Nat.blt pc 11 then (bif Nat.blt pc 5 then (bif Nat.blt pc 3 then (bif Nat.blt pc 1 then (bif Nat.beq pc 0 then some (.aload_n 2, 1, 2, 0, 0, mj_u) else none) else
       (bif Nat.beq pc 1 then some (.iload 4, 2, 4, 0, 0, mj_u) else none)) else
      (bif Nat.blt pc 4 then (bif Nat.beq pc 3 then some (.iaload, 1, 0, 0, 0, mj_u) else none) else
       (bif Nat.beq pc 4 then some (.iload_n 3, 1, 3, 0, 0, mj_u) else none))) else
     (bif Nat.blt pc 9 then (bif Nat.blt pc 8 then (bif Nat.beq pc 5 then some (.if_icmp .ge 5, 3, 10, 0, 0, mj_u) else none) else
       (bif Nat.beq pc 8 then some (.iconst 0, 1, 0, 0, 0, .int 0) else none)) else
      (bif Nat.blt pc 10 then (bif Nat.beq pc 9 then some (.ireturn, 1, 0, 0, 0, mj_u) else none) else
       (bif Nat.beq pc 10 then some (.iconst 0, 1, 0, 0, 0, .int 0) else none)))) else
    (bif Nat.blt pc 17 then (bif Nat.blt pc 14 then (bif Nat.blt pc 13 then (bif Nat.beq pc 11 then some (.istore 5, 2, 5, 0, 0, mj_u) else none) else
       (bif Nat.beq pc 13 then some (.iconst 0, 1, 0, 0, 0, .int 0) else none)) else
      (bif Nat.blt pc 16 then (bif Nat.beq pc 14 then some (.istore 6, 2, 6, 0, 0, mj_u) else none) else
       (bif Nat.beq pc 16 then some (.iconst 0, 1, 0, 0, 0, .int 0) else none))) else
     (bif Nat.blt pc 21 then (bif Nat.blt pc 19 then (bif Nat.beq pc 17 then some (.istore 7, 2, 7, 0, 0, mj_u) else none) else
       (bif Nat.beq pc 19 then some (.iload 7, 2, 7, 0, 0, mj_u) else none)) else
      (bif Nat.blt pc 23 then (bif Nat.beq pc 21 then some (.bipush 8, 2, 0, 0, 0, .int 8) else none) else
       (bif Nat.blt pc 26 then (bif Nat.beq pc 23 then some (.if_icmp .ge 83, 3, 106, 0, 0, mj_u) else none) else
        (bif Nat.beq pc 26 then some (.aload_n 0, 1, 0, 0, 0, mj_u) else none)))))) else
   (bif Nat.blt pc 44 then (bif Nat.blt pc 36 then (bif Nat.blt pc 31 then (bif Nat.blt pc 29 then (bif Nat.beq pc 27 then some (.iload 4, 2, 4, 0, 0, mj_u) else none) else
       (bif Nat.beq pc 29 then some (.iload 7, 2, 7, 0, 0, mj_u) else none)) else
      (bif Nat.blt pc 34 then (bif Nat.beq pc 31 then some (.invokevirtual 53, 3, 134, 0, 1037, mj_u) else none) else
       (bif Nat.beq pc 34 then some (.istore 8, 2, 8, 0, 0, mj_u) else none))) else
     (bif Nat.blt pc 41 then (bif Nat.blt pc 38 then (bif Nat.beq pc 36 then some (.iload 8, 2, 8, 0, 0, mj_u) else none) else
       (bif Nat.beq pc 38 then some (.ifCond .lt 62, 3, 100, 0, 0, mj_u) else none)) else
      (bif Nat.blt pc 42 then (bif Nat.beq pc 41 then some (.aload_n 1, 1, 1, 0, 0, mj_u) else none) else
       (bif Nat.beq pc 42 then some (.iload 8, 2, 8, 0, 0, mj_u) else none)))) else
    (bif Nat.blt pc 53 then (bif Nat.blt pc 47 then (bif Nat.blt pc 45 then (bif Nat.beq pc 44 then some (.iaload, 1, 0, 0, 0, mj_u) else none) else
       (bif Nat.beq pc 45 then some (.iload 4, 2, 4, 0, 0, mj_u) else none)) else
      (bif Nat.blt pc 50 then (bif Nat.beq pc 47 then some (.if_icmp .eq 6, 3, 53, 0, 0, mj_u) else none) else
       (bif Nat.beq pc 50 then some (.goto 50, 3, 100, 0, 0, mj_u) else none))) else
     (bif Nat.blt pc 55 then (bif Nat.blt pc 54 then (bif Nat.beq pc 53 then some (.aload_n 0, 1, 0, 0, 0, mj_u) else none) else
       (bif Nat.beq pc 54 then some (.aload_n 1, 1, 1, 0, 0, mj_u) else none)) else
      (bif Nat.blt pc 56 then (bif Nat.beq pc 55 then some (.aload_n 2, 1, 2, 0, 0, mj_u) else none) else
       (bif Nat.blt pc 57 then (bif Nat.beq pc 56 then some (.iload_n 3, 1, 3, 0, 0, mj_u) else none) else
        (bif Nat.beq pc 57 then some (.iload 8, 2, 8, 0, 0, mj_u) else none))))))) else
  (bif Nat.blt pc 96 then (bif Nat.blt pc 79 then (bif Nat.blt pc 69 then (bif Nat.blt pc 64 then (bif Nat.blt pc 62 then (bif Nat.beq pc 59 then some (.invokevirtual 60, 3, 152, 0, 1096, mj_u) else none) else
       (bif Nat.beq pc 62 then some (.istore 9, 2, 9, 0, 0, mj_u) else none)) else
      (bif Nat.blt pc 66 then (bif Nat.beq pc 64 then some (.iload 9, 2, 9, 0, 0, mj_u) else none) else
       (bif Nat.beq pc 66 then some (.ifCond .eq 34, 3, 100, 0, 0, mj_u) else none))) else
     (bif Nat.blt pc 73 then (bif Nat.blt pc 71 then (bif Nat.beq pc 69 then some (.iload 9, 2, 9, 0, 0, mj_u) else none) else
       (bif Nat.beq pc 71 then some (.iload 5, 2, 5, 0, 0, mj_u) else none)) else
      (bif Nat.blt pc 76 then (bif Nat.beq pc 73 then some (.if_icmp .ge 6, 3, 79, 0, 0, mj_u) else none) else
       (bif Nat.beq pc 76 then some (.goto 24, 3, 100, 0, 0, mj_u) else none)))) else
    (bif Nat.blt pc 87 then (bif Nat.blt pc 83 then (bif Nat.blt pc 81 then (bif Nat.beq pc 79 then some (.iload 9, 2, 9, 0, 0, mj_u) else none) else
       (bif Nat.beq pc 81 then some (.iload 5, 2, 5, 0, 0, mj_u) else none)) else
      (bif Nat.blt pc 86 then (bif Nat.beq pc 83 then some (.if_icmp .le 7, 3, 90, 0, 0, mj_u) else none) else
       (bif Nat.beq pc 86 then some (.iconst 1, 1, 0, 0, 0, .int 1) else none))) else
     (bif Nat.blt pc 92 then (bif Nat.blt pc 90 then (bif Nat.beq pc 87 then some (.goto 7, 3, 94, 0, 0, mj_u) else none) else
       (bif Nat.beq pc 90 then some (.iload 6, 2, 6, 0, 0, mj_u) else none)) else
      (bif Nat.blt pc 93 then (bif Nat.beq pc 92 then some (.iconst 1, 1, 0, 0, 0, .int 1) else none) else
       (bif Nat.blt pc 94 then (bif Nat.beq pc 93 then some (.iadd, 1, 0, 0, 0, mj_u) else none) else
        (bif Nat.beq pc 94 then some (.istore 6, 2, 6, 0, 0, mj_u) else none)))))) else
   (bif Nat.blt pc 115 then (bif Nat.blt pc 106 then (bif Nat.blt pc 100 then (bif Nat.blt pc 98 then (bif Nat.beq pc 96 then some (.iload 9, 2, 9, 0, 0, mj_u) else none) else
       (bif Nat.beq pc 98 then some (.istore 5, 2, 5, 0, 0, mj_u) else none)) else
      (bif Nat.blt pc 103 then (bif Nat.beq pc 100 then some (.iinc 7 1, 3, 7, 0, 0, .int 1) else none) else
       (bif Nat.beq pc 103 then some (.goto (-84), 3, 19, 0, 0, mj_u) else none))) else
     (bif Nat.blt pc 111 then (bif Nat.blt pc 108 then (bif Nat.beq pc 106 then some (.iload 5, 2, 5, 0, 0, mj_u) else none) else
       (bif Nat.beq pc 108 then some (.ifCond .ne 7, 3, 115, 0, 0, mj_u) else none)) else
      (bif Nat.blt pc 112 then (bif Nat.beq pc 111 then some (.iconst 1, 1, 0, 0, 0, .int 1) else none) else
       (bif Nat.beq pc 112 then some (.goto 18, 3, 130, 0, 0, mj_u) else none)))) else
    (bif Nat.blt pc 123 then (bif Nat.blt pc 118 then (bif Nat.blt pc 117 then (bif Nat.beq pc 115 then some (.iload 6, 2, 6, 0, 0, mj_u) else none) else
       (bif Nat.beq pc 117 then some (.iconst 1, 1, 0, 0, 0, .int 1) else none)) else
      (bif Nat.blt pc 121 then (bif Nat.beq pc 118 then some (.if_icmp .le 10, 3, 128, 0, 0, mj_u) else none) else
       (bif Nat.beq pc 121 then some (.iload 5, 2, 5, 0, 0, mj_u) else none))) else
     (bif Nat.blt pc 125 then (bif Nat.blt pc 124 then (bif Nat.beq pc 123 then some (.iconst 1, 1, 0, 0, 0, .int 1) else none) else
       (bif Nat.beq pc 124 then some (.iadd, 1, 0, 0, 0, mj_u) else none)) else
      (bif Nat.blt pc 128 then (bif Nat.beq pc 125 then some (.goto 5, 3, 130, 0, 0, mj_u) else none) else
       (bif Nat.blt pc 130 then (bif Nat.beq pc 128 then some (.iload 5, 2, 5, 0, 0, mj_u) else none) else
        (bif Nat.beq pc 130 then some (.ireturn, 1, 0, 0, 0, mj_u) else none)))))))
def m_ML_rank : mj_M := (152, prog_12_method_15_code, 10, (Option.some Jvm.ClassFile.FieldType.int), 9, 4, 1095, 1093, 1094, 56, 131, k_ML_rank)
/-- WatershedMapModel$Land.steps([II)I static -/
def k_ML_steps : Nat → Option mj_I := fun pc =>
  bif Nat.blt pc 10 then (bif Nat.blt pc 4 then (bif Nat.blt pc 2 then (bif Nat.blt pc 1 then (bif Nat.beq pc 0 then some (.iconst 0, 1, 0, 0, 0, .int 0) else none) else
     (bif Nat.beq pc 1 then some (.istore_n 2, 1, 2, 0, 0, mj_u) else none)) else
    (bif Nat.blt pc 3 then (bif Nat.beq pc 2 then some (.iload_n 1, 1, 1, 0, 0, mj_u) else none) else
     (bif Nat.beq pc 3 then some (.istore_n 3, 1, 3, 0, 0, mj_u) else none))) else
   (bif Nat.blt pc 6 then (bif Nat.blt pc 5 then (bif Nat.beq pc 4 then some (.aload_n 0, 1, 0, 0, 0, mj_u) else none) else
     (bif Nat.beq pc 5 then some (.iload_n 3, 1, 3, 0, 0, mj_u) else none)) else
    (bif Nat.blt pc 7 then (bif Nat.beq pc 6 then some (.iaload, 1, 0, 0, 0, mj_u) else none) else
     (bif Nat.beq pc 7 then some (.ifCond .lt 13, 3, 20, 0, 0, mj_u) else none)))) else
  (bif Nat.blt pc 16 then (bif Nat.blt pc 14 then (bif Nat.blt pc 13 then (bif Nat.beq pc 10 then some (.iinc 2 1, 3, 2, 0, 0, .int 1) else none) else
     (bif Nat.beq pc 13 then some (.aload_n 0, 1, 0, 0, 0, mj_u) else none)) else
    (bif Nat.blt pc 15 then (bif Nat.beq pc 14 then some (.iload_n 3, 1, 3, 0, 0, mj_u) else none) else
     (bif Nat.beq pc 15 then some (.iaload, 1, 0, 0, 0, mj_u) else none))) else
   (bif Nat.blt pc 20 then (bif Nat.blt pc 17 then (bif Nat.beq pc 16 then some (.istore_n 3, 1, 3, 0, 0, mj_u) else none) else
     (bif Nat.beq pc 17 then some (.goto (-13), 3, 4, 0, 0, mj_u) else none)) else
    (bif Nat.blt pc 21 then (bif Nat.beq pc 20 then some (.iload_n 2, 1, 2, 0, 0, mj_u) else none) else
     (bif Nat.beq pc 21 then some (.ireturn, 1, 0, 0, 0, mj_u) else none))))
def m_ML_steps : mj_M := (153, prog_12_method_14_code, 4, (Option.some Jvm.ClassFile.FieldType.int), 9, 2, 1099, 1098, 0, 56, 22, k_ML_steps)
/-- WatershedMapModel.basins()I -/
def k_M_basins : Nat → Option mj_I := fun pc =>
  bif Nat.blt pc 4 then (bif Nat.blt pc 1 then (bif Nat.beq pc 0 then some (.aload_n 0, 1, 0, 0, 0, mj_u) else none) else
   (bif Nat.blt pc 2 then (bif Nat.beq pc 1 then some (.aload_n 0, 1, 0, 0, 0, mj_u) else none) else
    (bif Nat.beq pc 2 then some (.bipush 8, 2, 0, 0, 0, .int 8) else none))) else
  (bif Nat.blt pc 7 then (bif Nat.beq pc 4 then some (.invokevirtual 143, 3, 155, 0, 1104, mj_u) else none) else
   (bif Nat.blt pc 10 then (bif Nat.beq pc 7 then some (.invokevirtual 146, 3, 156, 0, 1108, mj_u) else none) else
    (bif Nat.beq pc 10 then some (.ireturn, 1, 0, 0, 0, mj_u) else none)))
def m_M_basins : mj_M := (154, prog_11_method_27_code, 1, (Option.some Jvm.ClassFile.FieldType.int), 10, 0, 1103, 1101, 1102, 55, 11, k_M_basins)
/-- WatershedMapModel.many(I)I -/
def k_M_many : Nat → Option mj_I := fun pc =>
  bif Nat.blt pc 20 then (bif Nat.blt pc 6 then (bif Nat.blt pc 3 then (bif Nat.blt pc 1 then (bif Nat.beq pc 0 then some (.iconst 0, 1, 0, 0, 0, .int 0) else none) else
     (bif Nat.blt pc 2 then (bif Nat.beq pc 1 then some (.istore_n 2, 1, 2, 0, 0, mj_u) else none) else
      (bif Nat.beq pc 2 then some (.iconst 0, 1, 0, 0, 0, .int 0) else none))) else
    (bif Nat.blt pc 4 then (bif Nat.beq pc 3 then some (.istore_n 3, 1, 3, 0, 0, mj_u) else none) else
     (bif Nat.blt pc 5 then (bif Nat.beq pc 4 then some (.iload_n 3, 1, 3, 0, 0, mj_u) else none) else
      (bif Nat.beq pc 5 then some (.aload_n 0, 1, 0, 0, 0, mj_u) else none)))) else
   (bif Nat.blt pc 15 then (bif Nat.blt pc 9 then (bif Nat.beq pc 6 then some (.getfield 23, 3, 10, 1, 905, .null) else none) else
     (bif Nat.blt pc 12 then (bif Nat.beq pc 9 then some (.invokevirtual 96, 3, 127, 0, 1012, mj_u) else none) else
      (bif Nat.beq pc 12 then some (.if_icmp .ge 29, 3, 41, 0, 0, mj_u) else none))) else
    (bif Nat.blt pc 16 then (bif Nat.beq pc 15 then some (.iload_n 2, 1, 2, 0, 0, mj_u) else none) else
     (bif Nat.blt pc 17 then (bif Nat.beq pc 16 then some (.aload_n 0, 1, 0, 0, 0, mj_u) else none) else
      (bif Nat.beq pc 17 then some (.getfield 23, 3, 10, 1, 905, .null) else none))))) else
  (bif Nat.blt pc 32 then (bif Nat.blt pc 25 then (bif Nat.blt pc 21 then (bif Nat.beq pc 20 then some (.iload_n 3, 1, 3, 0, 0, mj_u) else none) else
     (bif Nat.blt pc 24 then (bif Nat.beq pc 21 then some (.invokevirtual 125, 3, 137, 0, 1088, mj_u) else none) else
      (bif Nat.beq pc 24 then some (.iload_n 1, 1, 1, 0, 0, mj_u) else none))) else
    (bif Nat.blt pc 28 then (bif Nat.beq pc 25 then some (.if_icmp .lt 7, 3, 32, 0, 0, mj_u) else none) else
     (bif Nat.blt pc 29 then (bif Nat.beq pc 28 then some (.iconst 1, 1, 0, 0, 0, .int 1) else none) else
      (bif Nat.beq pc 29 then some (.goto 4, 3, 33, 0, 0, mj_u) else none)))) else
   (bif Nat.blt pc 35 then (bif Nat.blt pc 33 then (bif Nat.beq pc 32 then some (.iconst 0, 1, 0, 0, 0, .int 0) else none) else
     (bif Nat.blt pc 34 then (bif Nat.beq pc 33 then some (.iadd, 1, 0, 0, 0, mj_u) else none) else
      (bif Nat.beq pc 34 then some (.istore_n 2, 1, 2, 0, 0, mj_u) else none))) else
    (bif Nat.blt pc 41 then (bif Nat.blt pc 38 then (bif Nat.beq pc 35 then some (.iinc 3 1, 3, 3, 0, 0, .int 1) else none) else
      (bif Nat.beq pc 38 then some (.goto (-34), 3, 4, 0, 0, mj_u) else none)) else
     (bif Nat.blt pc 42 then (bif Nat.beq pc 41 then some (.iload_n 2, 1, 2, 0, 0, mj_u) else none) else
      (bif Nat.beq pc 42 then some (.ireturn, 1, 0, 0, 0, mj_u) else none)))))
def m_M_many : mj_M := (155, prog_11_method_26_code, 4, (Option.some Jvm.ClassFile.FieldType.int), 10, 1, 1107, 1106, 34, 55, 43, k_M_many)
/-- WatershedMapModel.plain(I)I -/
def k_M_plain : Nat → Option mj_I := fun pc =>
  bif Nat.blt pc 2 then (bif Nat.blt pc 1 then (bif Nat.beq pc 0 then some (.aload_n 0, 1, 0, 0, 0, mj_u) else none) else
   (bif Nat.beq pc 1 then some (.iconst 0, 1, 0, 0, 0, .int 0) else none)) else
  (bif Nat.blt pc 5 then (bif Nat.beq pc 2 then some (.putfield 31, 3, 10, 0, 904, .int 0) else none) else
   (bif Nat.blt pc 6 then (bif Nat.beq pc 5 then some (.iload_n 1, 1, 1, 0, 0, mj_u) else none) else
    (bif Nat.beq pc 6 then some (.ireturn, 1, 0, 0, 0, mj_u) else none)))
def m_M_plain : mj_M := (156, prog_11_method_7_code, 2, (Option.some Jvm.ClassFile.FieldType.int), 10, 1, 1111, 1110, 35, 55, 7, k_M_plain)
/-- WatershedMapModel.pits()I -/
def k_M_pits : Nat → Option mj_I := fun pc =>
  bif Nat.blt pc 4 then (bif Nat.blt pc 1 then (bif Nat.beq pc 0 then some (.aload_n 0, 1, 0, 0, 0, mj_u) else none) else
   (bif Nat.blt pc 2 then (bif Nat.beq pc 1 then some (.aload_n 0, 1, 0, 0, 0, mj_u) else none) else
    (bif Nat.beq pc 2 then some (.bipush 9, 2, 0, 0, 0, .int 9) else none))) else
  (bif Nat.blt pc 7 then (bif Nat.beq pc 4 then some (.invokevirtual 143, 3, 155, 0, 1104, mj_u) else none) else
   (bif Nat.blt pc 10 then (bif Nat.beq pc 7 then some (.invokevirtual 146, 3, 156, 0, 1108, mj_u) else none) else
    (bif Nat.beq pc 10 then some (.ireturn, 1, 0, 0, 0, mj_u) else none)))
def m_M_pits : mj_M := (157, prog_11_method_28_code, 1, (Option.some Jvm.ClassFile.FieldType.int), 10, 0, 1115, 1113, 1114, 55, 11, k_M_pits)
/-- WatershedMapModel.mostRank()I -/
def k_M_mostRank : Nat → Option mj_I := fun pc =>
  bif Nat.blt pc 2 then (bif Nat.blt pc 1 then (bif Nat.beq pc 0 then some (.aload_n 0, 1, 0, 0, 0, mj_u) else none) else
   (bif Nat.beq pc 1 then some (.aload_n 0, 1, 0, 0, 0, mj_u) else none)) else
  (bif Nat.blt pc 5 then (bif Nat.beq pc 2 then some (.invokevirtual 149, 3, 159, 0, 1120, mj_u) else none) else
   (bif Nat.blt pc 8 then (bif Nat.beq pc 5 then some (.invokevirtual 146, 3, 156, 0, 1108, mj_u) else none) else
    (bif Nat.beq pc 8 then some (.ireturn, 1, 0, 0, 0, mj_u) else none)))
def m_M_mostRank : mj_M := (158, prog_11_method_30_code, 1, (Option.some Jvm.ClassFile.FieldType.int), 10, 0, 1119, 1117, 1118, 55, 9, k_M_mostRank)
/-- WatershedMapModel.mostRankNow()I -/
def k_M_mostRankNow : Nat → Option mj_I := fun pc =>
  bif Nat.blt pc 28 then (bif Nat.blt pc 16 then (bif Nat.blt pc 8 then (bif Nat.blt pc 4 then (bif Nat.blt pc 1 then (bif Nat.beq pc 0 then some (.aload_n 0, 1, 0, 0, 0, mj_u) else none) else
      (bif Nat.beq pc 1 then some (.getfield 23, 3, 10, 1, 905, .null) else none)) else
     (bif Nat.blt pc 7 then (bif Nat.beq pc 4 then some (.invokevirtual 102, 3, 136, 0, 1025, mj_u) else none) else
      (bif Nat.beq pc 7 then some (.astore_n 1, 1, 1, 0, 0, mj_u) else none))) else
    (bif Nat.blt pc 12 then (bif Nat.blt pc 9 then (bif Nat.beq pc 8 then some (.aload_n 0, 1, 0, 0, 0, mj_u) else none) else
      (bif Nat.beq pc 9 then some (.getfield 23, 3, 10, 1, 905, .null) else none)) else
     (bif Nat.blt pc 13 then (bif Nat.beq pc 12 then some (.aload_n 1, 1, 1, 0, 0, mj_u) else none) else
      (bif Nat.beq pc 13 then some (.invokevirtual 106, 3, 139, 0, 1038, mj_u) else none)))) else
   (bif Nat.blt pc 20 then (bif Nat.blt pc 18 then (bif Nat.blt pc 17 then (bif Nat.beq pc 16 then some (.astore_n 2, 1, 2, 0, 0, mj_u) else none) else
      (bif Nat.beq pc 17 then some (.iconst 0, 1, 0, 0, 0, .int 0) else none)) else
     (bif Nat.blt pc 19 then (bif Nat.beq pc 18 then some (.istore_n 3, 1, 3, 0, 0, mj_u) else none) else
      (bif Nat.beq pc 19 then some (.iconst 0, 1, 0, 0, 0, .int 0) else none))) else
    (bif Nat.blt pc 24 then (bif Nat.blt pc 22 then (bif Nat.beq pc 20 then some (.istore 4, 2, 4, 0, 0, mj_u) else none) else
      (bif Nat.beq pc 22 then some (.iload 4, 2, 4, 0, 0, mj_u) else none)) else
     (bif Nat.blt pc 25 then (bif Nat.beq pc 24 then some (.aload_n 0, 1, 0, 0, 0, mj_u) else none) else
      (bif Nat.beq pc 25 then some (.getfield 23, 3, 10, 1, 905, .null) else none))))) else
  (bif Nat.blt pc 42 then (bif Nat.blt pc 36 then (bif Nat.blt pc 34 then (bif Nat.blt pc 31 then (bif Nat.beq pc 28 then some (.invokevirtual 96, 3, 127, 0, 1012, mj_u) else none) else
      (bif Nat.beq pc 31 then some (.if_icmp .ge 29, 3, 60, 0, 0, mj_u) else none)) else
     (bif Nat.blt pc 35 then (bif Nat.beq pc 34 then some (.iload_n 3, 1, 3, 0, 0, mj_u) else none) else
      (bif Nat.beq pc 35 then some (.aload_n 0, 1, 0, 0, 0, mj_u) else none))) else
    (bif Nat.blt pc 40 then (bif Nat.blt pc 39 then (bif Nat.beq pc 36 then some (.getfield 23, 3, 10, 1, 905, .null) else none) else
      (bif Nat.beq pc 39 then some (.aload_n 1, 1, 1, 0, 0, mj_u) else none)) else
     (bif Nat.blt pc 41 then (bif Nat.beq pc 40 then some (.aload_n 2, 1, 2, 0, 0, mj_u) else none) else
      (bif Nat.beq pc 41 then some (.aload_n 0, 1, 0, 0, 0, mj_u) else none)))) else
   (bif Nat.blt pc 53 then (bif Nat.blt pc 47 then (bif Nat.blt pc 45 then (bif Nat.beq pc 42 then some (.getfield 27, 3, 10, 2, 906, .int 0) else none) else
      (bif Nat.beq pc 45 then some (.iload 4, 2, 4, 0, 0, mj_u) else none)) else
     (bif Nat.blt pc 50 then (bif Nat.beq pc 47 then some (.invokevirtual 132, 3, 152, 0, 1092, mj_u) else none) else
      (bif Nat.beq pc 50 then some (.invokestatic 9, 3, 26, 0, 972, mj_u) else none))) else
    (bif Nat.blt pc 57 then (bif Nat.blt pc 54 then (bif Nat.beq pc 53 then some (.istore_n 3, 1, 3, 0, 0, mj_u) else none) else
      (bif Nat.beq pc 54 then some (.iinc 4 1, 3, 4, 0, 0, .int 1) else none)) else
     (bif Nat.blt pc 60 then (bif Nat.beq pc 57 then some (.goto (-35), 3, 22, 0, 0, mj_u) else none) else
      (bif Nat.blt pc 61 then (bif Nat.beq pc 60 then some (.iload_n 3, 1, 3, 0, 0, mj_u) else none) else
       (bif Nat.beq pc 61 then some (.ireturn, 1, 0, 0, 0, mj_u) else none))))))
def m_M_mostRankNow : mj_M := (159, prog_11_method_29_code, 5, (Option.some Jvm.ClassFile.FieldType.int), 10, 0, 1123, 1122, 36, 55, 62, k_M_mostRankNow)
/-- WatershedMapModel.longestStream()I -/
def k_M_longestStream : Nat → Option mj_I := fun pc =>
  bif Nat.blt pc 2 then (bif Nat.blt pc 1 then (bif Nat.beq pc 0 then some (.aload_n 0, 1, 0, 0, 0, mj_u) else none) else
   (bif Nat.beq pc 1 then some (.aload_n 0, 1, 0, 0, 0, mj_u) else none)) else
  (bif Nat.blt pc 5 then (bif Nat.beq pc 2 then some (.invokevirtual 152, 3, 161, 0, 1128, mj_u) else none) else
   (bif Nat.blt pc 8 then (bif Nat.beq pc 5 then some (.invokevirtual 146, 3, 156, 0, 1108, mj_u) else none) else
    (bif Nat.beq pc 8 then some (.ireturn, 1, 0, 0, 0, mj_u) else none)))
def m_M_longestStream : mj_M := (160, prog_11_method_32_code, 1, (Option.some Jvm.ClassFile.FieldType.int), 10, 0, 1127, 1125, 1126, 55, 9, k_M_longestStream)
/-- WatershedMapModel.longestNow()I -/
def k_M_longestNow : Nat → Option mj_I := fun pc =>
  bif Nat.blt pc 34 then (bif Nat.blt pc 17 then (bif Nat.blt pc 8 then (bif Nat.blt pc 4 then (bif Nat.blt pc 1 then (bif Nat.beq pc 0 then some (.aload_n 0, 1, 0, 0, 0, mj_u) else none) else
      (bif Nat.beq pc 1 then some (.getfield 23, 3, 10, 1, 905, .null) else none)) else
     (bif Nat.blt pc 7 then (bif Nat.beq pc 4 then some (.invokevirtual 102, 3, 136, 0, 1025, mj_u) else none) else
      (bif Nat.beq pc 7 then some (.astore_n 1, 1, 1, 0, 0, mj_u) else none))) else
    (bif Nat.blt pc 12 then (bif Nat.blt pc 9 then (bif Nat.beq pc 8 then some (.aload_n 0, 1, 0, 0, 0, mj_u) else none) else
      (bif Nat.beq pc 9 then some (.getfield 23, 3, 10, 1, 905, .null) else none)) else
     (bif Nat.blt pc 13 then (bif Nat.beq pc 12 then some (.aload_n 1, 1, 1, 0, 0, mj_u) else none) else
      (bif Nat.blt pc 16 then (bif Nat.beq pc 13 then some (.invokevirtual 106, 3, 139, 0, 1038, mj_u) else none) else
       (bif Nat.beq pc 16 then some (.astore_n 2, 1, 2, 0, 0, mj_u) else none))))) else
   (bif Nat.blt pc 22 then (bif Nat.blt pc 19 then (bif Nat.blt pc 18 then (bif Nat.beq pc 17 then some (.iconst 0, 1, 0, 0, 0, .int 0) else none) else
      (bif Nat.beq pc 18 then some (.istore_n 3, 1, 3, 0, 0, mj_u) else none)) else
     (bif Nat.blt pc 20 then (bif Nat.beq pc 19 then some (.iconst 0, 1, 0, 0, 0, .int 0) else none) else
      (bif Nat.beq pc 20 then some (.istore 4, 2, 4, 0, 0, mj_u) else none))) else
    (bif Nat.blt pc 25 then (bif Nat.blt pc 24 then (bif Nat.beq pc 22 then some (.iload 4, 2, 4, 0, 0, mj_u) else none) else
      (bif Nat.beq pc 24 then some (.aload_n 0, 1, 0, 0, 0, mj_u) else none)) else
     (bif Nat.blt pc 28 then (bif Nat.beq pc 25 then some (.getfield 23, 3, 10, 1, 905, .null) else none) else
      (bif Nat.blt pc 31 then (bif Nat.beq pc 28 then some (.invokevirtual 96, 3, 127, 0, 1012, mj_u) else none) else
       (bif Nat.beq pc 31 then some (.if_icmp .ge 33, 3, 64, 0, 0, mj_u) else none)))))) else
  (bif Nat.blt pc 49 then (bif Nat.blt pc 39 then (bif Nat.blt pc 37 then (bif Nat.blt pc 35 then (bif Nat.beq pc 34 then some (.aload_n 2, 1, 2, 0, 0, mj_u) else none) else
      (bif Nat.beq pc 35 then some (.iload 4, 2, 4, 0, 0, mj_u) else none)) else
     (bif Nat.blt pc 38 then (bif Nat.beq pc 37 then some (.iaload, 1, 0, 0, 0, mj_u) else none) else
      (bif Nat.beq pc 38 then some (.aload_n 0, 1, 0, 0, 0, mj_u) else none))) else
    (bif Nat.blt pc 45 then (bif Nat.blt pc 42 then (bif Nat.beq pc 39 then some (.getfield 27, 3, 10, 2, 906, .int 0) else none) else
      (bif Nat.beq pc 42 then some (.if_icmp .lt 16, 3, 58, 0, 0, mj_u) else none)) else
     (bif Nat.blt pc 46 then (bif Nat.beq pc 45 then some (.iload_n 3, 1, 3, 0, 0, mj_u) else none) else
      (bif Nat.blt pc 47 then (bif Nat.beq pc 46 then some (.aload_n 1, 1, 1, 0, 0, mj_u) else none) else
       (bif Nat.beq pc 47 then some (.iload 4, 2, 4, 0, 0, mj_u) else none))))) else
   (bif Nat.blt pc 57 then (bif Nat.blt pc 53 then (bif Nat.blt pc 52 then (bif Nat.beq pc 49 then some (.invokestatic 136, 3, 153, 0, 1097, mj_u) else none) else
      (bif Nat.beq pc 52 then some (.iconst 1, 1, 0, 0, 0, .int 1) else none)) else
     (bif Nat.blt pc 54 then (bif Nat.beq pc 53 then some (.iadd, 1, 0, 0, 0, mj_u) else none) else
      (bif Nat.beq pc 54 then some (.invokestatic 9, 3, 26, 0, 972, mj_u) else none))) else
    (bif Nat.blt pc 61 then (bif Nat.blt pc 58 then (bif Nat.beq pc 57 then some (.istore_n 3, 1, 3, 0, 0, mj_u) else none) else
      (bif Nat.beq pc 58 then some (.iinc 4 1, 3, 4, 0, 0, .int 1) else none)) else
     (bif Nat.blt pc 64 then (bif Nat.beq pc 61 then some (.goto (-39), 3, 22, 0, 0, mj_u) else none) else
      (bif Nat.blt pc 65 then (bif Nat.beq pc 64 then some (.iload_n 3, 1, 3, 0, 0, mj_u) else none) else
       (bif Nat.beq pc 65 then some (.ireturn, 1, 0, 0, 0, mj_u) else none))))))
def m_M_longestNow : mj_M := (161, prog_11_method_31_code, 5, (Option.some Jvm.ClassFile.FieldType.int), 10, 0, 1131, 1130, 37, 55, 66, k_M_longestNow)
/-- WatershedMapModel.level(II)I -/
def k_M_level : Nat → Option mj_I := fun pc =>
  bif Nat.blt pc 14 then (bif Nat.blt pc 6 then (bif Nat.blt pc 2 then (bif Nat.blt pc 1 then (bif Nat.beq pc 0 then some (.aload_n 0, 1, 0, 0, 0, mj_u) else none) else
     (bif Nat.beq pc 1 then some (.iload_n 1, 1, 1, 0, 0, mj_u) else none)) else
    (bif Nat.blt pc 3 then (bif Nat.beq pc 2 then some (.iload_n 2, 1, 2, 0, 0, mj_u) else none) else
     (bif Nat.beq pc 3 then some (.invokevirtual 63, 3, 119, 0, 937, mj_u) else none))) else
   (bif Nat.blt pc 10 then (bif Nat.blt pc 9 then (bif Nat.beq pc 6 then some (.ifCond .eq 7, 3, 13, 0, 0, mj_u) else none) else
     (bif Nat.beq pc 9 then some (.iconst 0, 1, 0, 0, 0, .int 0) else none)) else
    (bif Nat.blt pc 13 then (bif Nat.beq pc 10 then some (.goto 17, 3, 27, 0, 0, mj_u) else none) else
     (bif Nat.beq pc 13 then some (.aload_n 0, 1, 0, 0, 0, mj_u) else none)))) else
  (bif Nat.blt pc 22 then (bif Nat.blt pc 20 then (bif Nat.blt pc 17 then (bif Nat.beq pc 14 then some (.getfield 23, 3, 10, 1, 905, .null) else none) else
     (bif Nat.beq pc 17 then some (.invokevirtual 113, 3, 142, 0, 1055, mj_u) else none)) else
    (bif Nat.blt pc 21 then (bif Nat.beq pc 20 then some (.aload_n 0, 1, 0, 0, 0, mj_u) else none) else
     (bif Nat.beq pc 21 then some (.iload_n 1, 1, 1, 0, 0, mj_u) else none))) else
   (bif Nat.blt pc 26 then (bif Nat.blt pc 23 then (bif Nat.beq pc 22 then some (.iload_n 2, 1, 2, 0, 0, mj_u) else none) else
     (bif Nat.beq pc 23 then some (.invokevirtual 66, 3, 121, 0, 945, mj_u) else none)) else
    (bif Nat.blt pc 27 then (bif Nat.beq pc 26 then some (.iaload, 1, 0, 0, 0, mj_u) else none) else
     (bif Nat.beq pc 27 then some (.ireturn, 1, 0, 0, 0, mj_u) else none))))
def m_M_level : mj_M := (162, prog_11_method_33_code, 3, (Option.some Jvm.ClassFile.FieldType.int), 10, 2, 1135, 1133, 1134, 55, 28, k_M_level)
/-- WatershedMapModel.lakes()I -/
def k_M_lakes : Nat → Option mj_I := fun pc =>
  bif Nat.blt pc 2 then (bif Nat.blt pc 1 then (bif Nat.beq pc 0 then some (.aload_n 0, 1, 0, 0, 0, mj_u) else none) else
   (bif Nat.beq pc 1 then some (.aload_n 0, 1, 0, 0, 0, mj_u) else none)) else
  (bif Nat.blt pc 5 then (bif Nat.beq pc 2 then some (.invokevirtual 158, 3, 164, 0, 1140, mj_u) else none) else
   (bif Nat.blt pc 8 then (bif Nat.beq pc 5 then some (.invokevirtual 146, 3, 156, 0, 1108, mj_u) else none) else
    (bif Nat.beq pc 8 then some (.ireturn, 1, 0, 0, 0, mj_u) else none)))
def m_M_lakes : mj_M := (163, prog_11_method_35_code, 1, (Option.some Jvm.ClassFile.FieldType.int), 10, 0, 1139, 1137, 1138, 55, 9, k_M_lakes)
/-- WatershedMapModel.lakesNow()I -/
def k_M_lakesNow : Nat → Option mj_I := fun pc =>
  bif Nat.blt pc 19 then (bif Nat.blt pc 10 then (bif Nat.blt pc 7 then (bif Nat.blt pc 1 then (bif Nat.beq pc 0 then some (.aload_n 0, 1, 0, 0, 0, mj_u) else none) else
     (bif Nat.blt pc 4 then (bif Nat.beq pc 1 then some (.getfield 23, 3, 10, 1, 905, .null) else none) else
      (bif Nat.beq pc 4 then some (.invokevirtual 155, 3, 165, 0, 1144, mj_u) else none))) else
    (bif Nat.blt pc 8 then (bif Nat.beq pc 7 then some (.astore_n 1, 1, 1, 0, 0, mj_u) else none) else
     (bif Nat.blt pc 9 then (bif Nat.beq pc 8 then some (.iconst 0, 1, 0, 0, 0, .int 0) else none) else
      (bif Nat.beq pc 9 then some (.istore_n 2, 1, 2, 0, 0, mj_u) else none)))) else
   (bif Nat.blt pc 13 then (bif Nat.blt pc 11 then (bif Nat.beq pc 10 then some (.iconst 0, 1, 0, 0, 0, .int 0) else none) else
     (bif Nat.blt pc 12 then (bif Nat.beq pc 11 then some (.istore_n 3, 1, 3, 0, 0, mj_u) else none) else
      (bif Nat.beq pc 12 then some (.iload_n 3, 1, 3, 0, 0, mj_u) else none))) else
    (bif Nat.blt pc 15 then (bif Nat.blt pc 14 then (bif Nat.beq pc 13 then some (.aload_n 1, 1, 1, 0, 0, mj_u) else none) else
      (bif Nat.beq pc 14 then some (.arraylength, 1, 0, 0, 0, mj_u) else none)) else
     (bif Nat.blt pc 18 then (bif Nat.beq pc 15 then some (.if_icmp .ge 24, 3, 39, 0, 0, mj_u) else none) else
      (bif Nat.beq pc 18 then some (.iload_n 2, 1, 2, 0, 0, mj_u) else none))))) else
  (bif Nat.blt pc 30 then (bif Nat.blt pc 22 then (bif Nat.blt pc 20 then (bif Nat.beq pc 19 then some (.aload_n 1, 1, 1, 0, 0, mj_u) else none) else
     (bif Nat.blt pc 21 then (bif Nat.beq pc 20 then some (.iload_n 3, 1, 3, 0, 0, mj_u) else none) else
      (bif Nat.beq pc 21 then some (.iaload, 1, 0, 0, 0, mj_u) else none))) else
    (bif Nat.blt pc 26 then (bif Nat.blt pc 23 then (bif Nat.beq pc 22 then some (.iload_n 3, 1, 3, 0, 0, mj_u) else none) else
      (bif Nat.beq pc 23 then some (.if_icmp .ne 7, 3, 30, 0, 0, mj_u) else none)) else
     (bif Nat.blt pc 27 then (bif Nat.beq pc 26 then some (.iconst 1, 1, 0, 0, 0, .int 1) else none) else
      (bif Nat.beq pc 27 then some (.goto 4, 3, 31, 0, 0, mj_u) else none)))) else
   (bif Nat.blt pc 33 then (bif Nat.blt pc 31 then (bif Nat.beq pc 30 then some (.iconst 0, 1, 0, 0, 0, .int 0) else none) else
     (bif Nat.blt pc 32 then (bif Nat.beq pc 31 then some (.iadd, 1, 0, 0, 0, mj_u) else none) else
      (bif Nat.beq pc 32 then some (.istore_n 2, 1, 2, 0, 0, mj_u) else none))) else
    (bif Nat.blt pc 39 then (bif Nat.blt pc 36 then (bif Nat.beq pc 33 then some (.iinc 3 1, 3, 3, 0, 0, .int 1) else none) else
      (bif Nat.beq pc 36 then some (.goto (-24), 3, 12, 0, 0, mj_u) else none)) else
     (bif Nat.blt pc 40 then (bif Nat.beq pc 39 then some (.iload_n 2, 1, 2, 0, 0, mj_u) else none) else
      (bif Nat.beq pc 40 then some (.ireturn, 1, 0, 0, 0, mj_u) else none)))))
def m_M_lakesNow : mj_M := (164, prog_11_method_34_code, 4, (Option.some Jvm.ClassFile.FieldType.int), 10, 0, 1143, 1142, 38, 55, 41, k_M_lakesNow)
/-- WatershedMapModel$Land.lakes()[I -/
def k_ML_lakes : Nat → Option mj_I := fun pc =>
  bif Nat.blt pc 69 then (bif Nat.blt pc 32 then (bif Nat.blt pc 15 then (bif Nat.blt pc 9 then (bif Nat.blt pc 4 then (bif Nat.blt pc 1 then (bif Nat.beq pc 0 then some (.aload_n 0, 1, 0, 0, 0, mj_u) else none) else
       (bif Nat.beq pc 1 then some (.invokevirtual 64, 3, 142, 0, 1050, mj_u) else none)) else
      (bif Nat.blt pc 5 then (bif Nat.beq pc 4 then some (.astore_n 1, 1, 1, 0, 0, mj_u) else none) else
       (bif Nat.blt pc 6 then (bif Nat.beq pc 5 then some (.aload_n 0, 1, 0, 0, 0, mj_u) else none) else
        (bif Nat.beq pc 6 then some (.invokevirtual 45, 3, 127, 0, 981, mj_u) else none)))) else
     (bif Nat.blt pc 12 then (bif Nat.blt pc 11 then (bif Nat.beq pc 9 then some (.newarray .int, 2, 0, 0, 0, mj_u) else none) else
       (bif Nat.beq pc 11 then some (.astore_n 2, 1, 2, 0, 0, mj_u) else none)) else
      (bif Nat.blt pc 13 then (bif Nat.beq pc 12 then some (.iconst 0, 1, 0, 0, 0, .int 0) else none) else
       (bif Nat.blt pc 14 then (bif Nat.beq pc 13 then some (.istore_n 3, 1, 3, 0, 0, mj_u) else none) else
        (bif Nat.beq pc 14 then some (.iload_n 3, 1, 3, 0, 0, mj_u) else none))))) else
    (bif Nat.blt pc 24 then (bif Nat.blt pc 19 then (bif Nat.blt pc 16 then (bif Nat.beq pc 15 then some (.aload_n 0, 1, 0, 0, 0, mj_u) else none) else
       (bif Nat.beq pc 16 then some (.invokevirtual 45, 3, 127, 0, 981, mj_u) else none)) else
      (bif Nat.blt pc 22 then (bif Nat.beq pc 19 then some (.if_icmp .ge 29, 3, 48, 0, 0, mj_u) else none) else
       (bif Nat.blt pc 23 then (bif Nat.beq pc 22 then some (.aload_n 2, 1, 2, 0, 0, mj_u) else none) else
        (bif Nat.beq pc 23 then some (.iload_n 3, 1, 3, 0, 0, mj_u) else none)))) else
     (bif Nat.blt pc 27 then (bif Nat.blt pc 25 then (bif Nat.beq pc 24 then some (.aload_n 1, 1, 1, 0, 0, mj_u) else none) else
       (bif Nat.blt pc 26 then (bif Nat.beq pc 25 then some (.iload_n 3, 1, 3, 0, 0, mj_u) else none) else
        (bif Nat.beq pc 26 then some (.iaload, 1, 0, 0, 0, mj_u) else none))) else
      (bif Nat.blt pc 28 then (bif Nat.beq pc 27 then some (.aload_n 0, 1, 0, 0, 0, mj_u) else none) else
       (bif Nat.blt pc 31 then (bif Nat.beq pc 28 then some (.getfield 18, 3, 9, 2, 895, .null) else none) else
        (bif Nat.beq pc 31 then some (.iload_n 3, 1, 3, 0, 0, mj_u) else none)))))) else
   (bif Nat.blt pc 50 then (bif Nat.blt pc 41 then (bif Nat.blt pc 36 then (bif Nat.blt pc 33 then (bif Nat.beq pc 32 then some (.iaload, 1, 0, 0, 0, mj_u) else none) else
       (bif Nat.beq pc 33 then some (.if_icmp .le 7, 3, 40, 0, 0, mj_u) else none)) else
      (bif Nat.blt pc 37 then (bif Nat.beq pc 36 then some (.iload_n 3, 1, 3, 0, 0, mj_u) else none) else
       (bif Nat.blt pc 40 then (bif Nat.beq pc 37 then some (.goto 4, 3, 41, 0, 0, mj_u) else none) else
        (bif Nat.beq pc 40 then some (.iconst (-1), 1, 0, 0, 0, .int (-1)) else none)))) else
     (bif Nat.blt pc 45 then (bif Nat.blt pc 42 then (bif Nat.beq pc 41 then some (.iastore, 1, 0, 0, 0, mj_u) else none) else
       (bif Nat.beq pc 42 then some (.iinc 3 1, 3, 3, 0, 0, .int 1) else none)) else
      (bif Nat.blt pc 48 then (bif Nat.beq pc 45 then some (.goto (-31), 3, 14, 0, 0, mj_u) else none) else
       (bif Nat.blt pc 49 then (bif Nat.beq pc 48 then some (.iconst 1, 1, 0, 0, 0, .int 1) else none) else
        (bif Nat.beq pc 49 then some (.istore_n 3, 1, 3, 0, 0, mj_u) else none))))) else
    (bif Nat.blt pc 57 then (bif Nat.blt pc 54 then (bif Nat.blt pc 51 then (bif Nat.beq pc 50 then some (.iload_n 3, 1, 3, 0, 0, mj_u) else none) else
       (bif Nat.beq pc 51 then some (.ifCond .eq 95, 3, 146, 0, 0, mj_u) else none)) else
      (bif Nat.blt pc 55 then (bif Nat.beq pc 54 then some (.iconst 0, 1, 0, 0, 0, .int 0) else none) else
       (bif Nat.blt pc 56 then (bif Nat.beq pc 55 then some (.istore_n 3, 1, 3, 0, 0, mj_u) else none) else
        (bif Nat.beq pc 56 then some (.iconst 0, 1, 0, 0, 0, .int 0) else none)))) else
     (bif Nat.blt pc 62 then (bif Nat.blt pc 59 then (bif Nat.beq pc 57 then some (.istore 4, 2, 4, 0, 0, mj_u) else none) else
       (bif Nat.blt pc 61 then (bif Nat.beq pc 59 then some (.iload 4, 2, 4, 0, 0, mj_u) else none) else
        (bif Nat.beq pc 61 then some (.aload_n 0, 1, 0, 0, 0, mj_u) else none))) else
      (bif Nat.blt pc 65 then (bif Nat.beq pc 62 then some (.invokevirtual 45, 3, 127, 0, 981, mj_u) else none) else
       (bif Nat.blt pc 68 then (bif Nat.beq pc 65 then some (.if_icmp .ge 78, 3, 143, 0, 0, mj_u) else none) else
        (bif Nat.beq pc 68 then some (.iconst 0, 1, 0, 0, 0, .int 0) else none))))))) else
  (bif Nat.blt pc 110 then (bif Nat.blt pc 88 then (bif Nat.blt pc 79 then (bif Nat.blt pc 73 then (bif Nat.blt pc 71 then (bif Nat.beq pc 69 then some (.istore 5, 2, 5, 0, 0, mj_u) else none) else
       (bif Nat.beq pc 71 then some (.iload 5, 2, 5, 0, 0, mj_u) else none)) else
      (bif Nat.blt pc 75 then (bif Nat.beq pc 73 then some (.bipush 8, 2, 0, 0, 0, .int 8) else none) else
       (bif Nat.blt pc 78 then (bif Nat.beq pc 75 then some (.if_icmp .ge 62, 3, 137, 0, 0, mj_u) else none) else
        (bif Nat.beq pc 78 then some (.aload_n 2, 1, 2, 0, 0, mj_u) else none)))) else
     (bif Nat.blt pc 82 then (bif Nat.blt pc 81 then (bif Nat.beq pc 79 then some (.iload 4, 2, 4, 0, 0, mj_u) else none) else
       (bif Nat.beq pc 81 then some (.iaload, 1, 0, 0, 0, mj_u) else none)) else
      (bif Nat.blt pc 85 then (bif Nat.beq pc 82 then some (.ifCond .lt 55, 3, 137, 0, 0, mj_u) else none) else
       (bif Nat.blt pc 86 then (bif Nat.beq pc 85 then some (.aload_n 0, 1, 0, 0, 0, mj_u) else none) else
        (bif Nat.beq pc 86 then some (.iload 4, 2, 4, 0, 0, mj_u) else none))))) else
    (bif Nat.blt pc 100 then (bif Nat.blt pc 93 then (bif Nat.blt pc 90 then (bif Nat.beq pc 88 then some (.iload 5, 2, 5, 0, 0, mj_u) else none) else
       (bif Nat.beq pc 90 then some (.invokevirtual 53, 3, 134, 0, 1037, mj_u) else none)) else
      (bif Nat.blt pc 95 then (bif Nat.beq pc 93 then some (.istore 6, 2, 6, 0, 0, mj_u) else none) else
       (bif Nat.blt pc 97 then (bif Nat.beq pc 95 then some (.iload 6, 2, 6, 0, 0, mj_u) else none) else
        (bif Nat.beq pc 97 then some (.ifCond .lt 34, 3, 131, 0, 0, mj_u) else none)))) else
     (bif Nat.blt pc 104 then (bif Nat.blt pc 101 then (bif Nat.beq pc 100 then some (.aload_n 2, 1, 2, 0, 0, mj_u) else none) else
       (bif Nat.blt pc 103 then (bif Nat.beq pc 101 then some (.iload 6, 2, 6, 0, 0, mj_u) else none) else
        (bif Nat.beq pc 103 then some (.iaload, 1, 0, 0, 0, mj_u) else none))) else
      (bif Nat.blt pc 107 then (bif Nat.beq pc 104 then some (.ifCond .lt 27, 3, 131, 0, 0, mj_u) else none) else
       (bif Nat.blt pc 108 then (bif Nat.beq pc 107 then some (.aload_n 2, 1, 2, 0, 0, mj_u) else none) else
        (bif Nat.beq pc 108 then some (.iload 6, 2, 6, 0, 0, mj_u) else none)))))) else
   (bif Nat.blt pc 127 then (bif Nat.blt pc 118 then (bif Nat.blt pc 112 then (bif Nat.blt pc 111 then (bif Nat.beq pc 110 then some (.iaload, 1, 0, 0, 0, mj_u) else none) else
       (bif Nat.beq pc 111 then some (.aload_n 2, 1, 2, 0, 0, mj_u) else none)) else
      (bif Nat.blt pc 114 then (bif Nat.beq pc 112 then some (.iload 4, 2, 4, 0, 0, mj_u) else none) else
       (bif Nat.blt pc 115 then (bif Nat.beq pc 114 then some (.iaload, 1, 0, 0, 0, mj_u) else none) else
        (bif Nat.beq pc 115 then some (.if_icmp .lt 6, 3, 121, 0, 0, mj_u) else none)))) else
     (bif Nat.blt pc 122 then (bif Nat.blt pc 121 then (bif Nat.beq pc 118 then some (.goto 13, 3, 131, 0, 0, mj_u) else none) else
       (bif Nat.beq pc 121 then some (.aload_n 2, 1, 2, 0, 0, mj_u) else none)) else
      (bif Nat.blt pc 124 then (bif Nat.beq pc 122 then some (.iload 4, 2, 4, 0, 0, mj_u) else none) else
       (bif Nat.blt pc 125 then (bif Nat.beq pc 124 then some (.aload_n 2, 1, 2, 0, 0, mj_u) else none) else
        (bif Nat.beq pc 125 then some (.iload 6, 2, 6, 0, 0, mj_u) else none))))) else
    (bif Nat.blt pc 134 then (bif Nat.blt pc 129 then (bif Nat.blt pc 128 then (bif Nat.beq pc 127 then some (.iaload, 1, 0, 0, 0, mj_u) else none) else
       (bif Nat.beq pc 128 then some (.iastore, 1, 0, 0, 0, mj_u) else none)) else
      (bif Nat.blt pc 130 then (bif Nat.beq pc 129 then some (.iconst 1, 1, 0, 0, 0, .int 1) else none) else
       (bif Nat.blt pc 131 then (bif Nat.beq pc 130 then some (.istore_n 3, 1, 3, 0, 0, mj_u) else none) else
        (bif Nat.beq pc 131 then some (.iinc 5 2, 3, 5, 0, 0, .int 2) else none)))) else
     (bif Nat.blt pc 143 then (bif Nat.blt pc 137 then (bif Nat.beq pc 134 then some (.goto (-63), 3, 71, 0, 0, mj_u) else none) else
       (bif Nat.blt pc 140 then (bif Nat.beq pc 137 then some (.iinc 4 1, 3, 4, 0, 0, .int 1) else none) else
        (bif Nat.beq pc 140 then some (.goto (-81), 3, 59, 0, 0, mj_u) else none))) else
      (bif Nat.blt pc 146 then (bif Nat.beq pc 143 then some (.goto (-93), 3, 50, 0, 0, mj_u) else none) else
       (bif Nat.blt pc 147 then (bif Nat.beq pc 146 then some (.aload_n 2, 1, 2, 0, 0, mj_u) else none) else
        (bif Nat.beq pc 147 then some (.areturn, 1, 0, 0, 0, mj_u) else none)))))))
def m_ML_lakes : mj_M := (165, prog_12_method_18_code, 7, (Option.some (Jvm.ClassFile.FieldType.array Jvm.ClassFile.FieldType.int)), 9, 0, 1147, 1145, 1146, 56, 148, k_ML_lakes)
/-- WatershedMapModel.lake(III)I -/
def k_M_lake : Nat → Option mj_I := fun pc =>
  bif Nat.blt pc 62 then (bif Nat.blt pc 31 then (bif Nat.blt pc 12 then (bif Nat.blt pc 6 then (bif Nat.blt pc 2 then (bif Nat.blt pc 1 then (bif Nat.beq pc 0 then some (.aload_n 0, 1, 0, 0, 0, mj_u) else none) else
       (bif Nat.beq pc 1 then some (.iload_n 1, 1, 1, 0, 0, mj_u) else none)) else
      (bif Nat.blt pc 3 then (bif Nat.beq pc 2 then some (.iload_n 2, 1, 2, 0, 0, mj_u) else none) else
       (bif Nat.beq pc 3 then some (.invokevirtual 63, 3, 119, 0, 937, mj_u) else none))) else
     (bif Nat.blt pc 10 then (bif Nat.blt pc 9 then (bif Nat.beq pc 6 then some (.ifCond .ne 25, 3, 31, 0, 0, mj_u) else none) else
       (bif Nat.beq pc 9 then some (.aload_n 0, 1, 0, 0, 0, mj_u) else none)) else
      (bif Nat.blt pc 11 then (bif Nat.beq pc 10 then some (.iload_n 3, 1, 3, 0, 0, mj_u) else none) else
       (bif Nat.beq pc 11 then some (.iconst 0, 1, 0, 0, 0, .int 0) else none)))) else
    (bif Nat.blt pc 20 then (bif Nat.blt pc 16 then (bif Nat.blt pc 13 then (bif Nat.beq pc 12 then some (.iconst 1, 1, 0, 0, 0, .int 1) else none) else
       (bif Nat.beq pc 13 then some (.invokestatic 41, 3, 115, 0, 922, mj_u) else none)) else
      (bif Nat.blt pc 19 then (bif Nat.beq pc 16 then some (.ifCond .ne 7, 3, 23, 0, 0, mj_u) else none) else
       (bif Nat.beq pc 19 then some (.iconst 1, 1, 0, 0, 0, .int 1) else none))) else
     (bif Nat.blt pc 24 then (bif Nat.blt pc 23 then (bif Nat.beq pc 20 then some (.goto 4, 3, 24, 0, 0, mj_u) else none) else
       (bif Nat.beq pc 23 then some (.iconst 0, 1, 0, 0, 0, .int 0) else none)) else
      (bif Nat.blt pc 25 then (bif Nat.beq pc 24 then some (.iconst 2, 1, 0, 0, 0, .int 2) else none) else
       (bif Nat.blt pc 28 then (bif Nat.beq pc 25 then some (.invokevirtual 34, 3, 117, 0, 929, mj_u) else none) else
        (bif Nat.beq pc 28 then some (.ifCond .eq 5, 3, 33, 0, 0, mj_u) else none)))))) else
   (bif Nat.blt pc 46 then (bif Nat.blt pc 37 then (bif Nat.blt pc 33 then (bif Nat.blt pc 32 then (bif Nat.beq pc 31 then some (.iconst 0, 1, 0, 0, 0, .int 0) else none) else
       (bif Nat.beq pc 32 then some (.ireturn, 1, 0, 0, 0, mj_u) else none)) else
      (bif Nat.blt pc 34 then (bif Nat.beq pc 33 then some (.aload_n 0, 1, 0, 0, 0, mj_u) else none) else
       (bif Nat.beq pc 34 then some (.getfield 23, 3, 10, 1, 905, .null) else none))) else
     (bif Nat.blt pc 42 then (bif Nat.blt pc 40 then (bif Nat.beq pc 37 then some (.invokevirtual 155, 3, 165, 0, 1144, mj_u) else none) else
       (bif Nat.beq pc 40 then some (.astore 4, 2, 4, 0, 0, mj_u) else none)) else
      (bif Nat.blt pc 43 then (bif Nat.beq pc 42 then some (.aload_n 0, 1, 0, 0, 0, mj_u) else none) else
       (bif Nat.beq pc 43 then some (.getfield 23, 3, 10, 1, 905, .null) else none)))) else
    (bif Nat.blt pc 54 then (bif Nat.blt pc 51 then (bif Nat.blt pc 49 then (bif Nat.beq pc 46 then some (.invokevirtual 113, 3, 142, 0, 1055, mj_u) else none) else
       (bif Nat.beq pc 49 then some (.astore 5, 2, 5, 0, 0, mj_u) else none)) else
      (bif Nat.blt pc 53 then (bif Nat.beq pc 51 then some (.aload 4, 2, 4, 0, 0, mj_u) else none) else
       (bif Nat.beq pc 53 then some (.aload_n 0, 1, 0, 0, 0, mj_u) else none))) else
     (bif Nat.blt pc 56 then (bif Nat.blt pc 55 then (bif Nat.beq pc 54 then some (.iload_n 1, 1, 1, 0, 0, mj_u) else none) else
       (bif Nat.beq pc 55 then some (.iload_n 2, 1, 2, 0, 0, mj_u) else none)) else
      (bif Nat.blt pc 59 then (bif Nat.beq pc 56 then some (.invokevirtual 66, 3, 121, 0, 945, mj_u) else none) else
       (bif Nat.blt pc 60 then (bif Nat.beq pc 59 then some (.iaload, 1, 0, 0, 0, mj_u) else none) else
        (bif Nat.beq pc 60 then some (.istore 6, 2, 6, 0, 0, mj_u) else none))))))) else
  (bif Nat.blt pc 94 then (bif Nat.blt pc 76 then (bif Nat.blt pc 68 then (bif Nat.blt pc 65 then (bif Nat.blt pc 63 then (bif Nat.beq pc 62 then some (.iconst 0, 1, 0, 0, 0, .int 0) else none) else
       (bif Nat.beq pc 63 then some (.istore 7, 2, 7, 0, 0, mj_u) else none)) else
      (bif Nat.blt pc 66 then (bif Nat.beq pc 65 then some (.iconst 0, 1, 0, 0, 0, .int 0) else none) else
       (bif Nat.beq pc 66 then some (.istore 8, 2, 8, 0, 0, mj_u) else none))) else
     (bif Nat.blt pc 72 then (bif Nat.blt pc 70 then (bif Nat.beq pc 68 then some (.iload 8, 2, 8, 0, 0, mj_u) else none) else
       (bif Nat.beq pc 70 then some (.aload 4, 2, 4, 0, 0, mj_u) else none)) else
      (bif Nat.blt pc 73 then (bif Nat.beq pc 72 then some (.arraylength, 1, 0, 0, 0, mj_u) else none) else
       (bif Nat.beq pc 73 then some (.if_icmp .ge 53, 3, 126, 0, 0, mj_u) else none)))) else
    (bif Nat.blt pc 85 then (bif Nat.blt pc 81 then (bif Nat.blt pc 78 then (bif Nat.beq pc 76 then some (.iload 6, 2, 6, 0, 0, mj_u) else none) else
       (bif Nat.beq pc 78 then some (.ifCond .lt 48, 3, 126, 0, 0, mj_u) else none)) else
      (bif Nat.blt pc 83 then (bif Nat.beq pc 81 then some (.aload 4, 2, 4, 0, 0, mj_u) else none) else
       (bif Nat.beq pc 83 then some (.iload 8, 2, 8, 0, 0, mj_u) else none))) else
     (bif Nat.blt pc 88 then (bif Nat.blt pc 86 then (bif Nat.beq pc 85 then some (.iaload, 1, 0, 0, 0, mj_u) else none) else
       (bif Nat.beq pc 86 then some (.iload 6, 2, 6, 0, 0, mj_u) else none)) else
      (bif Nat.blt pc 91 then (bif Nat.beq pc 88 then some (.if_icmp .ne 32, 3, 120, 0, 0, mj_u) else none) else
       (bif Nat.blt pc 93 then (bif Nat.beq pc 91 then some (.iload 7, 2, 7, 0, 0, mj_u) else none) else
        (bif Nat.beq pc 93 then some (.iload_n 3, 1, 3, 0, 0, mj_u) else none)))))) else
   (bif Nat.blt pc 113 then (bif Nat.blt pc 103 then (bif Nat.blt pc 98 then (bif Nat.blt pc 97 then (bif Nat.beq pc 94 then some (.ifCond .ne 7, 3, 101, 0, 0, mj_u) else none) else
       (bif Nat.beq pc 97 then some (.iconst 1, 1, 0, 0, 0, .int 1) else none)) else
      (bif Nat.blt pc 101 then (bif Nat.beq pc 98 then some (.goto 19, 3, 117, 0, 0, mj_u) else none) else
       (bif Nat.beq pc 101 then some (.aload 5, 2, 5, 0, 0, mj_u) else none))) else
     (bif Nat.blt pc 106 then (bif Nat.blt pc 105 then (bif Nat.beq pc 103 then some (.iload 8, 2, 8, 0, 0, mj_u) else none) else
       (bif Nat.beq pc 105 then some (.iaload, 1, 0, 0, 0, mj_u) else none)) else
      (bif Nat.blt pc 107 then (bif Nat.beq pc 106 then some (.aload_n 0, 1, 0, 0, 0, mj_u) else none) else
       (bif Nat.blt pc 110 then (bif Nat.beq pc 107 then some (.getfield 23, 3, 10, 1, 905, .null) else none) else
        (bif Nat.beq pc 110 then some (.getfield 55, 3, 9, 2, 896, .null) else none))))) else
    (bif Nat.blt pc 118 then (bif Nat.blt pc 116 then (bif Nat.blt pc 115 then (bif Nat.beq pc 113 then some (.iload 8, 2, 8, 0, 0, mj_u) else none) else
       (bif Nat.beq pc 115 then some (.iaload, 1, 0, 0, 0, mj_u) else none)) else
      (bif Nat.blt pc 117 then (bif Nat.beq pc 116 then some (.isub, 1, 0, 0, 0, mj_u) else none) else
       (bif Nat.beq pc 117 then some (.iadd, 1, 0, 0, 0, mj_u) else none))) else
     (bif Nat.blt pc 123 then (bif Nat.blt pc 120 then (bif Nat.beq pc 118 then some (.istore 7, 2, 7, 0, 0, mj_u) else none) else
       (bif Nat.beq pc 120 then some (.iinc 8 1, 3, 8, 0, 0, .int 1) else none)) else
      (bif Nat.blt pc 126 then (bif Nat.beq pc 123 then some (.goto (-55), 3, 68, 0, 0, mj_u) else none) else
       (bif Nat.blt pc 128 then (bif Nat.beq pc 126 then some (.iload 7, 2, 7, 0, 0, mj_u) else none) else
        (bif Nat.beq pc 128 then some (.ireturn, 1, 0, 0, 0, mj_u) else none)))))))
def m_M_lake : mj_M := (166, prog_11_method_36_code, 9, (Option.some Jvm.ClassFile.FieldType.int), 10, 3, 1151, 1149, 1150, 55, 129, k_M_lake)
/-- WatershedMapModel.volume()I -/
def k_M_volume : Nat → Option mj_I := fun pc =>
  bif Nat.blt pc 5 then (bif Nat.blt pc 1 then (bif Nat.beq pc 0 then some (.aload_n 0, 1, 0, 0, 0, mj_u) else none) else
   (bif Nat.blt pc 2 then (bif Nat.beq pc 1 then some (.aload_n 0, 1, 0, 0, 0, mj_u) else none) else
    (bif Nat.beq pc 2 then some (.getfield 23, 3, 10, 1, 905, .null) else none))) else
  (bif Nat.blt pc 8 then (bif Nat.beq pc 5 then some (.invokevirtual 110, 3, 141, 0, 1046, mj_u) else none) else
   (bif Nat.blt pc 11 then (bif Nat.beq pc 8 then some (.invokevirtual 146, 3, 156, 0, 1108, mj_u) else none) else
    (bif Nat.beq pc 11 then some (.ireturn, 1, 0, 0, 0, mj_u) else none)))
def m_M_volume : mj_M := (167, prog_11_method_37_code, 1, (Option.some Jvm.ClassFile.FieldType.int), 10, 0, 1155, 1153, 1154, 55, 12, k_M_volume)
/-- WatershedMapModel.contour(II)I -/
def k_M_contour : Nat → Option mj_I := fun pc =>
  bif Nat.blt pc 25 then (bif Nat.blt pc 12 then (bif Nat.blt pc 3 then (bif Nat.blt pc 1 then (bif Nat.beq pc 0 then some (.aload_n 0, 1, 0, 0, 0, mj_u) else none) else
     (bif Nat.blt pc 2 then (bif Nat.beq pc 1 then some (.iload_n 1, 1, 1, 0, 0, mj_u) else none) else
      (bif Nat.beq pc 2 then some (.iconst 0, 1, 0, 0, 0, .int 0) else none))) else
    (bif Nat.blt pc 6 then (bif Nat.beq pc 3 then some (.sipush 999, 3, 0, 0, 0, .int 999) else none) else
     (bif Nat.blt pc 9 then (bif Nat.beq pc 6 then some (.invokestatic 41, 3, 115, 0, 922, mj_u) else none) else
      (bif Nat.beq pc 9 then some (.ifCond .eq 12, 3, 21, 0, 0, mj_u) else none)))) else
   (bif Nat.blt pc 15 then (bif Nat.blt pc 13 then (bif Nat.beq pc 12 then some (.iload_n 2, 1, 2, 0, 0, mj_u) else none) else
     (bif Nat.blt pc 14 then (bif Nat.beq pc 13 then some (.iconst 0, 1, 0, 0, 0, .int 0) else none) else
      (bif Nat.beq pc 14 then some (.iconst 2, 1, 0, 0, 0, .int 2) else none))) else
    (bif Nat.blt pc 21 then (bif Nat.blt pc 18 then (bif Nat.beq pc 15 then some (.invokestatic 41, 3, 115, 0, 922, mj_u) else none) else
      (bif Nat.beq pc 18 then some (.ifCond .ne 7, 3, 25, 0, 0, mj_u) else none)) else
     (bif Nat.blt pc 22 then (bif Nat.beq pc 21 then some (.iconst 1, 1, 0, 0, 0, .int 1) else none) else
      (bif Nat.beq pc 22 then some (.goto 4, 3, 26, 0, 0, mj_u) else none))))) else
  (bif Nat.blt pc 37 then (bif Nat.blt pc 30 then (bif Nat.blt pc 26 then (bif Nat.beq pc 25 then some (.iconst 0, 1, 0, 0, 0, .int 0) else none) else
     (bif Nat.blt pc 27 then (bif Nat.beq pc 26 then some (.iconst 1, 1, 0, 0, 0, .int 1) else none) else
      (bif Nat.beq pc 27 then some (.invokevirtual 52, 3, 116, 0, 925, mj_u) else none))) else
    (bif Nat.blt pc 33 then (bif Nat.beq pc 30 then some (.ifCond .eq 7, 3, 37, 0, 0, mj_u) else none) else
     (bif Nat.blt pc 34 then (bif Nat.beq pc 33 then some (.iconst 0, 1, 0, 0, 0, .int 0) else none) else
      (bif Nat.beq pc 34 then some (.goto 13, 3, 47, 0, 0, mj_u) else none)))) else
   (bif Nat.blt pc 42 then (bif Nat.blt pc 38 then (bif Nat.beq pc 37 then some (.aload_n 0, 1, 0, 0, 0, mj_u) else none) else
     (bif Nat.blt pc 41 then (bif Nat.beq pc 38 then some (.getfield 23, 3, 10, 1, 905, .null) else none) else
      (bif Nat.beq pc 41 then some (.iload_n 1, 1, 1, 0, 0, mj_u) else none))) else
    (bif Nat.blt pc 46 then (bif Nat.blt pc 45 then (bif Nat.beq pc 42 then some (.invokevirtual 161, 3, 169, 0, 1160, mj_u) else none) else
      (bif Nat.beq pc 45 then some (.iload_n 2, 1, 2, 0, 0, mj_u) else none)) else
     (bif Nat.blt pc 47 then (bif Nat.beq pc 46 then some (.iaload, 1, 0, 0, 0, mj_u) else none) else
      (bif Nat.beq pc 47 then some (.ireturn, 1, 0, 0, 0, mj_u) else none)))))
def m_M_contour : mj_M := (168, prog_11_method_38_code, 3, (Option.some Jvm.ClassFile.FieldType.int), 10, 2, 1159, 1157, 1158, 55, 48, k_M_contour)
/-- WatershedMapModel$Land.contour(I)[I -/
def k_ML_contour : Nat → Option mj_I := fun pc =>
  bif Nat.blt pc 150 then (bif Nat.blt pc 70 then (bif Nat.blt pc 35 then (bif Nat.blt pc 16 then (bif Nat.blt pc 7 then (bif Nat.blt pc 2 then (bif Nat.blt pc 1 then (bif Nat.beq pc 0 then some (.aload_n 0, 1, 0, 0, 0, mj_u) else none) else
        (bif Nat.beq pc 1 then some (.iload_n 1, 1, 1, 0, 0, mj_u) else none)) else
       (bif Nat.blt pc 5 then (bif Nat.beq pc 2 then some (.invokevirtual 93, 3, 170, 0, 1164, mj_u) else none) else
        (bif Nat.blt pc 6 then (bif Nat.beq pc 5 then some (.astore_n 2, 1, 2, 0, 0, mj_u) else none) else
         (bif Nat.beq pc 6 then some (.aload_n 2, 1, 2, 0, 0, mj_u) else none)))) else
      (bif Nat.blt pc 12 then (bif Nat.blt pc 10 then (bif Nat.beq pc 7 then some (.invokevirtual 85, 3, 175, 0, 1274, mj_u) else none) else
        (bif Nat.beq pc 10 then some (.newarray .int, 2, 0, 0, 0, mj_u) else none)) else
       (bif Nat.blt pc 13 then (bif Nat.beq pc 12 then some (.astore_n 3, 1, 3, 0, 0, mj_u) else none) else
        (bif Nat.blt pc 14 then (bif Nat.beq pc 13 then some (.iconst 0, 1, 0, 0, 0, .int 0) else none) else
         (bif Nat.beq pc 14 then some (.istore 4, 2, 4, 0, 0, mj_u) else none))))) else
     (bif Nat.blt pc 24 then (bif Nat.blt pc 19 then (bif Nat.blt pc 18 then (bif Nat.beq pc 16 then some (.iload 4, 2, 4, 0, 0, mj_u) else none) else
        (bif Nat.beq pc 18 then some (.aload_n 3, 1, 3, 0, 0, mj_u) else none)) else
       (bif Nat.blt pc 20 then (bif Nat.beq pc 19 then some (.arraylength, 1, 0, 0, 0, mj_u) else none) else
        (bif Nat.blt pc 23 then (bif Nat.beq pc 20 then some (.if_icmp .ge 15, 3, 35, 0, 0, mj_u) else none) else
         (bif Nat.beq pc 23 then some (.aload_n 3, 1, 3, 0, 0, mj_u) else none)))) else
      (bif Nat.blt pc 28 then (bif Nat.blt pc 26 then (bif Nat.beq pc 24 then some (.iload 4, 2, 4, 0, 0, mj_u) else none) else
        (bif Nat.beq pc 26 then some (.iload 4, 2, 4, 0, 0, mj_u) else none)) else
       (bif Nat.blt pc 29 then (bif Nat.beq pc 28 then some (.iastore, 1, 0, 0, 0, mj_u) else none) else
        (bif Nat.blt pc 32 then (bif Nat.beq pc 29 then some (.iinc 4 1, 3, 4, 0, 0, .int 1) else none) else
         (bif Nat.beq pc 32 then some (.goto (-16), 3, 16, 0, 0, mj_u) else none)))))) else
    (bif Nat.blt pc 52 then (bif Nat.blt pc 44 then (bif Nat.blt pc 38 then (bif Nat.blt pc 36 then (bif Nat.beq pc 35 then some (.iconst 1, 1, 0, 0, 0, .int 1) else none) else
        (bif Nat.beq pc 36 then some (.istore 4, 2, 4, 0, 0, mj_u) else none)) else
       (bif Nat.blt pc 40 then (bif Nat.beq pc 38 then some (.iload 4, 2, 4, 0, 0, mj_u) else none) else
        (bif Nat.blt pc 43 then (bif Nat.beq pc 40 then some (.ifCond .eq 107, 3, 147, 0, 0, mj_u) else none) else
         (bif Nat.beq pc 43 then some (.iconst 0, 1, 0, 0, 0, .int 0) else none)))) else
      (bif Nat.blt pc 47 then (bif Nat.blt pc 46 then (bif Nat.beq pc 44 then some (.istore 4, 2, 4, 0, 0, mj_u) else none) else
        (bif Nat.beq pc 46 then some (.iconst 0, 1, 0, 0, 0, .int 0) else none)) else
       (bif Nat.blt pc 49 then (bif Nat.beq pc 47 then some (.istore 5, 2, 5, 0, 0, mj_u) else none) else
        (bif Nat.blt pc 51 then (bif Nat.beq pc 49 then some (.iload 5, 2, 5, 0, 0, mj_u) else none) else
         (bif Nat.beq pc 51 then some (.aload_n 3, 1, 3, 0, 0, mj_u) else none))))) else
     (bif Nat.blt pc 61 then (bif Nat.blt pc 56 then (bif Nat.blt pc 53 then (bif Nat.beq pc 52 then some (.arraylength, 1, 0, 0, 0, mj_u) else none) else
        (bif Nat.beq pc 53 then some (.if_icmp .ge 91, 3, 144, 0, 0, mj_u) else none)) else
       (bif Nat.blt pc 57 then (bif Nat.beq pc 56 then some (.iconst 0, 1, 0, 0, 0, .int 0) else none) else
        (bif Nat.blt pc 59 then (bif Nat.beq pc 57 then some (.istore 6, 2, 6, 0, 0, mj_u) else none) else
         (bif Nat.beq pc 59 then some (.iload 6, 2, 6, 0, 0, mj_u) else none)))) else
      (bif Nat.blt pc 66 then (bif Nat.blt pc 63 then (bif Nat.beq pc 61 then some (.iload 5, 2, 5, 0, 0, mj_u) else none) else
        (bif Nat.beq pc 63 then some (.if_icmp .ge 75, 3, 138, 0, 0, mj_u) else none)) else
       (bif Nat.blt pc 67 then (bif Nat.beq pc 66 then some (.aload_n 3, 1, 3, 0, 0, mj_u) else none) else
        (bif Nat.blt pc 69 then (bif Nat.beq pc 67 then some (.iload 5, 2, 5, 0, 0, mj_u) else none) else
         (bif Nat.beq pc 69 then some (.iaload, 1, 0, 0, 0, mj_u) else none))))))) else
   (bif Nat.blt pc 111 then (bif Nat.blt pc 89 then (bif Nat.blt pc 78 then (bif Nat.blt pc 73 then (bif Nat.blt pc 71 then (bif Nat.beq pc 70 then some (.aload_n 3, 1, 3, 0, 0, mj_u) else none) else
        (bif Nat.beq pc 71 then some (.iload 6, 2, 6, 0, 0, mj_u) else none)) else
       (bif Nat.blt pc 74 then (bif Nat.beq pc 73 then some (.iaload, 1, 0, 0, 0, mj_u) else none) else
        (bif Nat.blt pc 77 then (bif Nat.beq pc 74 then some (.if_icmp .eq 58, 3, 132, 0, 0, mj_u) else none) else
         (bif Nat.beq pc 77 then some (.aload_n 2, 1, 2, 0, 0, mj_u) else none)))) else
      (bif Nat.blt pc 83 then (bif Nat.blt pc 80 then (bif Nat.beq pc 78 then some (.iload 5, 2, 5, 0, 0, mj_u) else none) else
        (bif Nat.beq pc 80 then some (.invokevirtual 86, 3, 1002, 0, 1278, mj_u) else none)) else
       (bif Nat.blt pc 86 then (bif Nat.beq pc 83 then some (.checkcast 29, 3, 0, 0, 0, mj_u) else none) else
        (bif Nat.blt pc 87 then (bif Nat.beq pc 86 then some (.aload_n 2, 1, 2, 0, 0, mj_u) else none) else
         (bif Nat.beq pc 87 then some (.iload 6, 2, 6, 0, 0, mj_u) else none))))) else
     (bif Nat.blt pc 104 then (bif Nat.blt pc 95 then (bif Nat.blt pc 92 then (bif Nat.beq pc 89 then some (.invokevirtual 86, 3, 1002, 0, 1278, mj_u) else none) else
        (bif Nat.beq pc 92 then some (.checkcast 29, 3, 0, 0, 0, mj_u) else none)) else
       (bif Nat.blt pc 98 then (bif Nat.beq pc 95 then some (.invokestatic 97, 3, 176, 0, 1297, mj_u) else none) else
        (bif Nat.blt pc 101 then (bif Nat.beq pc 98 then some (.ifCond .ne 6, 3, 104, 0, 0, mj_u) else none) else
         (bif Nat.beq pc 101 then some (.goto 31, 3, 132, 0, 0, mj_u) else none)))) else
      (bif Nat.blt pc 107 then (bif Nat.blt pc 105 then (bif Nat.beq pc 104 then some (.aload_n 3, 1, 3, 0, 0, mj_u) else none) else
        (bif Nat.beq pc 105 then some (.iload 5, 2, 5, 0, 0, mj_u) else none)) else
       (bif Nat.blt pc 108 then (bif Nat.beq pc 107 then some (.iaload, 1, 0, 0, 0, mj_u) else none) else
        (bif Nat.blt pc 109 then (bif Nat.beq pc 108 then some (.aload_n 3, 1, 3, 0, 0, mj_u) else none) else
         (bif Nat.beq pc 109 then some (.iload 6, 2, 6, 0, 0, mj_u) else none)))))) else
    (bif Nat.blt pc 128 then (bif Nat.blt pc 120 then (bif Nat.blt pc 115 then (bif Nat.blt pc 112 then (bif Nat.beq pc 111 then some (.iaload, 1, 0, 0, 0, mj_u) else none) else
        (bif Nat.beq pc 112 then some (.invokestatic 36, 3, 59, 0, 1054, mj_u) else none)) else
       (bif Nat.blt pc 117 then (bif Nat.beq pc 115 then some (.istore 7, 2, 7, 0, 0, mj_u) else none) else
        (bif Nat.blt pc 118 then (bif Nat.beq pc 117 then some (.aload_n 3, 1, 3, 0, 0, mj_u) else none) else
         (bif Nat.beq pc 118 then some (.iload 5, 2, 5, 0, 0, mj_u) else none)))) else
      (bif Nat.blt pc 123 then (bif Nat.blt pc 122 then (bif Nat.beq pc 120 then some (.iload 7, 2, 7, 0, 0, mj_u) else none) else
        (bif Nat.beq pc 122 then some (.iastore, 1, 0, 0, 0, mj_u) else none)) else
       (bif Nat.blt pc 124 then (bif Nat.beq pc 123 then some (.aload_n 3, 1, 3, 0, 0, mj_u) else none) else
        (bif Nat.blt pc 126 then (bif Nat.beq pc 124 then some (.iload 6, 2, 6, 0, 0, mj_u) else none) else
         (bif Nat.beq pc 126 then some (.iload 7, 2, 7, 0, 0, mj_u) else none))))) else
     (bif Nat.blt pc 138 then (bif Nat.blt pc 130 then (bif Nat.blt pc 129 then (bif Nat.beq pc 128 then some (.iastore, 1, 0, 0, 0, mj_u) else none) else
        (bif Nat.beq pc 129 then some (.iconst 1, 1, 0, 0, 0, .int 1) else none)) else
       (bif Nat.blt pc 132 then (bif Nat.beq pc 130 then some (.istore 4, 2, 4, 0, 0, mj_u) else none) else
        (bif Nat.blt pc 135 then (bif Nat.beq pc 132 then some (.iinc 6 1, 3, 6, 0, 0, .int 1) else none) else
         (bif Nat.beq pc 135 then some (.goto (-76), 3, 59, 0, 0, mj_u) else none)))) else
      (bif Nat.blt pc 144 then (bif Nat.blt pc 141 then (bif Nat.beq pc 138 then some (.iinc 5 1, 3, 5, 0, 0, .int 1) else none) else
        (bif Nat.beq pc 141 then some (.goto (-92), 3, 49, 0, 0, mj_u) else none)) else
       (bif Nat.blt pc 147 then (bif Nat.beq pc 144 then some (.goto (-106), 3, 38, 0, 0, mj_u) else none) else
        (bif Nat.blt pc 148 then (bif Nat.beq pc 147 then some (.iconst 0, 1, 0, 0, 0, .int 0) else none) else
         (bif Nat.beq pc 148 then some (.istore 5, 2, 5, 0, 0, mj_u) else none)))))))) else
  (bif Nat.blt pc 222 then (bif Nat.blt pc 186 then (bif Nat.blt pc 166 then (bif Nat.blt pc 158 then (bif Nat.blt pc 153 then (bif Nat.blt pc 151 then (bif Nat.beq pc 150 then some (.iconst 0, 1, 0, 0, 0, .int 0) else none) else
        (bif Nat.beq pc 151 then some (.istore 6, 2, 6, 0, 0, mj_u) else none)) else
       (bif Nat.blt pc 154 then (bif Nat.beq pc 153 then some (.iconst 0, 1, 0, 0, 0, .int 0) else none) else
        (bif Nat.blt pc 156 then (bif Nat.beq pc 154 then some (.istore 7, 2, 7, 0, 0, mj_u) else none) else
         (bif Nat.beq pc 156 then some (.iload 7, 2, 7, 0, 0, mj_u) else none)))) else
      (bif Nat.blt pc 160 then (bif Nat.blt pc 159 then (bif Nat.beq pc 158 then some (.aload_n 3, 1, 3, 0, 0, mj_u) else none) else
        (bif Nat.beq pc 159 then some (.arraylength, 1, 0, 0, 0, mj_u) else none)) else
       (bif Nat.blt pc 163 then (bif Nat.beq pc 160 then some (.if_icmp .ge 113, 3, 273, 0, 0, mj_u) else none) else
        (bif Nat.blt pc 164 then (bif Nat.beq pc 163 then some (.aload_n 3, 1, 3, 0, 0, mj_u) else none) else
         (bif Nat.beq pc 164 then some (.iload 7, 2, 7, 0, 0, mj_u) else none))))) else
     (bif Nat.blt pc 178 then (bif Nat.blt pc 169 then (bif Nat.blt pc 167 then (bif Nat.beq pc 166 then some (.iaload, 1, 0, 0, 0, mj_u) else none) else
        (bif Nat.beq pc 167 then some (.iload 7, 2, 7, 0, 0, mj_u) else none)) else
       (bif Nat.blt pc 172 then (bif Nat.beq pc 169 then some (.if_icmp .eq 6, 3, 175, 0, 0, mj_u) else none) else
        (bif Nat.blt pc 175 then (bif Nat.beq pc 172 then some (.goto 95, 3, 267, 0, 0, mj_u) else none) else
         (bif Nat.beq pc 175 then some (.iinc 5 1, 3, 5, 0, 0, .int 1) else none)))) else
      (bif Nat.blt pc 181 then (bif Nat.blt pc 179 then (bif Nat.beq pc 178 then some (.iconst 1, 1, 0, 0, 0, .int 1) else none) else
        (bif Nat.beq pc 179 then some (.istore 8, 2, 8, 0, 0, mj_u) else none)) else
       (bif Nat.blt pc 182 then (bif Nat.beq pc 181 then some (.iconst 0, 1, 0, 0, 0, .int 0) else none) else
        (bif Nat.blt pc 184 then (bif Nat.beq pc 182 then some (.istore 9, 2, 9, 0, 0, mj_u) else none) else
         (bif Nat.beq pc 184 then some (.iload 9, 2, 9, 0, 0, mj_u) else none)))))) else
    (bif Nat.blt pc 203 then (bif Nat.blt pc 194 then (bif Nat.blt pc 188 then (bif Nat.blt pc 187 then (bif Nat.beq pc 186 then some (.aload_n 3, 1, 3, 0, 0, mj_u) else none) else
        (bif Nat.beq pc 187 then some (.arraylength, 1, 0, 0, 0, mj_u) else none)) else
       (bif Nat.blt pc 191 then (bif Nat.beq pc 188 then some (.if_icmp .ge 64, 3, 252, 0, 0, mj_u) else none) else
        (bif Nat.blt pc 193 then (bif Nat.beq pc 191 then some (.iload 8, 2, 8, 0, 0, mj_u) else none) else
         (bif Nat.beq pc 193 then some (.aload_n 3, 1, 3, 0, 0, mj_u) else none)))) else
      (bif Nat.blt pc 197 then (bif Nat.blt pc 196 then (bif Nat.beq pc 194 then some (.iload 9, 2, 9, 0, 0, mj_u) else none) else
        (bif Nat.beq pc 196 then some (.iaload, 1, 0, 0, 0, mj_u) else none)) else
       (bif Nat.blt pc 199 then (bif Nat.beq pc 197 then some (.iload 7, 2, 7, 0, 0, mj_u) else none) else
        (bif Nat.blt pc 202 then (bif Nat.beq pc 199 then some (.if_icmp .ne 39, 3, 238, 0, 0, mj_u) else none) else
         (bif Nat.beq pc 202 then some (.aload_n 2, 1, 2, 0, 0, mj_u) else none))))) else
     (bif Nat.blt pc 213 then (bif Nat.blt pc 206 then (bif Nat.blt pc 204 then (bif Nat.beq pc 203 then some (.aload_n 2, 1, 2, 0, 0, mj_u) else none) else
        (bif Nat.beq pc 204 then some (.iload 9, 2, 9, 0, 0, mj_u) else none)) else
       (bif Nat.blt pc 209 then (bif Nat.beq pc 206 then some (.invokevirtual 86, 3, 1002, 0, 1278, mj_u) else none) else
        (bif Nat.blt pc 212 then (bif Nat.beq pc 209 then some (.checkcast 29, 3, 0, 0, 0, mj_u) else none) else
         (bif Nat.beq pc 212 then some (.iconst 0, 1, 0, 0, 0, .int 0) else none)))) else
      (bif Nat.blt pc 217 then (bif Nat.blt pc 214 then (bif Nat.beq pc 213 then some (.iaload, 1, 0, 0, 0, mj_u) else none) else
        (bif Nat.beq pc 214 then some (.invokestatic 101, 3, 177, 0, 1300, mj_u) else none)) else
       (bif Nat.blt pc 220 then (bif Nat.beq pc 217 then some (.ifCond .eq 25, 3, 242, 0, 0, mj_u) else none) else
        (bif Nat.blt pc 221 then (bif Nat.beq pc 220 then some (.aload_n 2, 1, 2, 0, 0, mj_u) else none) else
         (bif Nat.beq pc 221 then some (.aload_n 2, 1, 2, 0, 0, mj_u) else none))))))) else
   (bif Nat.blt pc 264 then (bif Nat.blt pc 243 then (bif Nat.blt pc 232 then (bif Nat.blt pc 227 then (bif Nat.blt pc 224 then (bif Nat.beq pc 222 then some (.iload 9, 2, 9, 0, 0, mj_u) else none) else
        (bif Nat.beq pc 224 then some (.invokevirtual 86, 3, 1002, 0, 1278, mj_u) else none)) else
       (bif Nat.blt pc 230 then (bif Nat.beq pc 227 then some (.checkcast 29, 3, 0, 0, 0, mj_u) else none) else
        (bif Nat.blt pc 231 then (bif Nat.beq pc 230 then some (.iconst 1, 1, 0, 0, 0, .int 1) else none) else
         (bif Nat.beq pc 231 then some (.iaload, 1, 0, 0, 0, mj_u) else none)))) else
      (bif Nat.blt pc 238 then (bif Nat.blt pc 235 then (bif Nat.beq pc 232 then some (.invokestatic 101, 3, 177, 0, 1300, mj_u) else none) else
        (bif Nat.beq pc 235 then some (.ifCond .eq 7, 3, 242, 0, 0, mj_u) else none)) else
       (bif Nat.blt pc 239 then (bif Nat.beq pc 238 then some (.iconst 1, 1, 0, 0, 0, .int 1) else none) else
        (bif Nat.blt pc 242 then (bif Nat.beq pc 239 then some (.goto 4, 3, 243, 0, 0, mj_u) else none) else
         (bif Nat.beq pc 242 then some (.iconst 0, 1, 0, 0, 0, .int 0) else none))))) else
     (bif Nat.blt pc 254 then (bif Nat.blt pc 246 then (bif Nat.blt pc 244 then (bif Nat.beq pc 243 then some (.iand, 1, 0, 0, 0, mj_u) else none) else
        (bif Nat.beq pc 244 then some (.istore 8, 2, 8, 0, 0, mj_u) else none)) else
       (bif Nat.blt pc 249 then (bif Nat.beq pc 246 then some (.iinc 9 1, 3, 9, 0, 0, .int 1) else none) else
        (bif Nat.blt pc 252 then (bif Nat.beq pc 249 then some (.goto (-65), 3, 184, 0, 0, mj_u) else none) else
         (bif Nat.beq pc 252 then some (.iload 6, 2, 6, 0, 0, mj_u) else none)))) else
      (bif Nat.blt pc 259 then (bif Nat.blt pc 256 then (bif Nat.beq pc 254 then some (.iload 8, 2, 8, 0, 0, mj_u) else none) else
        (bif Nat.beq pc 256 then some (.ifCond .eq 7, 3, 263, 0, 0, mj_u) else none)) else
       (bif Nat.blt pc 260 then (bif Nat.beq pc 259 then some (.iconst 1, 1, 0, 0, 0, .int 1) else none) else
        (bif Nat.blt pc 263 then (bif Nat.beq pc 260 then some (.goto 4, 3, 264, 0, 0, mj_u) else none) else
         (bif Nat.beq pc 263 then some (.iconst 0, 1, 0, 0, 0, .int 0) else none)))))) else
    (bif Nat.blt pc 280 then (bif Nat.blt pc 274 then (bif Nat.blt pc 267 then (bif Nat.blt pc 265 then (bif Nat.beq pc 264 then some (.iadd, 1, 0, 0, 0, mj_u) else none) else
        (bif Nat.beq pc 265 then some (.istore 6, 2, 6, 0, 0, mj_u) else none)) else
       (bif Nat.blt pc 270 then (bif Nat.beq pc 267 then some (.iinc 7 1, 3, 7, 0, 0, .int 1) else none) else
        (bif Nat.blt pc 273 then (bif Nat.beq pc 270 then some (.goto (-114), 3, 156, 0, 0, mj_u) else none) else
         (bif Nat.beq pc 273 then some (.iconst 3, 1, 0, 0, 0, .int 3) else none)))) else
      (bif Nat.blt pc 277 then (bif Nat.blt pc 276 then (bif Nat.beq pc 274 then some (.newarray .int, 2, 0, 0, 0, mj_u) else none) else
        (bif Nat.beq pc 276 then some (.dup, 1, 0, 0, 0, mj_u) else none)) else
       (bif Nat.blt pc 278 then (bif Nat.beq pc 277 then some (.iconst 0, 1, 0, 0, 0, .int 0) else none) else
        (bif Nat.blt pc 279 then (bif Nat.beq pc 278 then some (.aload_n 3, 1, 3, 0, 0, mj_u) else none) else
         (bif Nat.beq pc 279 then some (.arraylength, 1, 0, 0, 0, mj_u) else none))))) else
     (bif Nat.blt pc 286 then (bif Nat.blt pc 282 then (bif Nat.blt pc 281 then (bif Nat.beq pc 280 then some (.iastore, 1, 0, 0, 0, mj_u) else none) else
        (bif Nat.beq pc 281 then some (.dup, 1, 0, 0, 0, mj_u) else none)) else
       (bif Nat.blt pc 283 then (bif Nat.beq pc 282 then some (.iconst 1, 1, 0, 0, 0, .int 1) else none) else
        (bif Nat.blt pc 285 then (bif Nat.beq pc 283 then some (.iload 5, 2, 5, 0, 0, mj_u) else none) else
         (bif Nat.beq pc 285 then some (.iastore, 1, 0, 0, 0, mj_u) else none)))) else
      (bif Nat.blt pc 288 then (bif Nat.blt pc 287 then (bif Nat.beq pc 286 then some (.dup, 1, 0, 0, 0, mj_u) else none) else
        (bif Nat.beq pc 287 then some (.iconst 2, 1, 0, 0, 0, .int 2) else none)) else
       (bif Nat.blt pc 290 then (bif Nat.beq pc 288 then some (.iload 6, 2, 6, 0, 0, mj_u) else none) else
        (bif Nat.blt pc 291 then (bif Nat.beq pc 290 then some (.iastore, 1, 0, 0, 0, mj_u) else none) else
         (bif Nat.beq pc 291 then some (.areturn, 1, 0, 0, 0, mj_u) else none))))))))
def m_ML_contour : mj_M := (169, prog_12_method_21_code, 10, (Option.some (Jvm.ClassFile.FieldType.array Jvm.ClassFile.FieldType.int)), 9, 1, 1163, 1161, 1162, 56, 292, k_ML_contour)
/-- WatershedMapModel$Land.pieces(I)Ljava/util/ArrayList; -/
def k_ML_pieces : Nat → Option mj_I := fun pc =>
  bif Nat.blt pc 159 then (bif Nat.blt pc 81 then (bif Nat.blt pc 45 then (bif Nat.blt pc 21 then (bif Nat.blt pc 10 then (bif Nat.blt pc 7 then (bif Nat.blt pc 3 then (bif Nat.beq pc 0 then some (.new 68, 3, 11, 1169, 1168, mj_u) else none) else
        (bif Nat.blt pc 4 then (bif Nat.beq pc 3 then some (.dup, 1, 0, 0, 0, mj_u) else none) else
         (bif Nat.beq pc 4 then some (.invokespecial 70, 3, 171, 0, 1170, mj_u) else none))) else
       (bif Nat.blt pc 8 then (bif Nat.beq pc 7 then some (.astore_n 2, 1, 2, 0, 0, mj_u) else none) else
        (bif Nat.blt pc 9 then (bif Nat.beq pc 8 then some (.iconst 0, 1, 0, 0, 0, .int 0) else none) else
         (bif Nat.beq pc 9 then some (.istore_n 3, 1, 3, 0, 0, mj_u) else none)))) else
      (bif Nat.blt pc 13 then (bif Nat.blt pc 11 then (bif Nat.beq pc 10 then some (.iload_n 3, 1, 3, 0, 0, mj_u) else none) else
        (bif Nat.blt pc 12 then (bif Nat.beq pc 11 then some (.iconst 1, 1, 0, 0, 0, .int 1) else none) else
         (bif Nat.beq pc 12 then some (.iadd, 1, 0, 0, 0, mj_u) else none))) else
       (bif Nat.blt pc 17 then (bif Nat.blt pc 14 then (bif Nat.beq pc 13 then some (.aload_n 0, 1, 0, 0, 0, mj_u) else none) else
         (bif Nat.beq pc 14 then some (.getfield 15, 3, 9, 1, 893, .int 0) else none)) else
        (bif Nat.blt pc 20 then (bif Nat.beq pc 17 then some (.if_icmp .ge 338, 3, 355, 0, 0, mj_u) else none) else
         (bif Nat.beq pc 20 then some (.iconst 0, 1, 0, 0, 0, .int 0) else none))))) else
     (bif Nat.blt pc 34 then (bif Nat.blt pc 26 then (bif Nat.blt pc 23 then (bif Nat.beq pc 21 then some (.istore 4, 2, 4, 0, 0, mj_u) else none) else
        (bif Nat.blt pc 25 then (bif Nat.beq pc 23 then some (.iload 4, 2, 4, 0, 0, mj_u) else none) else
         (bif Nat.beq pc 25 then some (.iconst 1, 1, 0, 0, 0, .int 1) else none))) else
       (bif Nat.blt pc 28 then (bif Nat.blt pc 27 then (bif Nat.beq pc 26 then some (.iadd, 1, 0, 0, 0, mj_u) else none) else
         (bif Nat.beq pc 27 then some (.aload_n 0, 1, 0, 0, 0, mj_u) else none)) else
        (bif Nat.blt pc 31 then (bif Nat.beq pc 28 then some (.getfield 9, 3, 9, 0, 891, .int 0) else none) else
         (bif Nat.beq pc 31 then some (.if_icmp .ge 318, 3, 349, 0, 0, mj_u) else none)))) else
      (bif Nat.blt pc 39 then (bif Nat.blt pc 35 then (bif Nat.beq pc 34 then some (.iload_n 3, 1, 3, 0, 0, mj_u) else none) else
        (bif Nat.blt pc 36 then (bif Nat.beq pc 35 then some (.aload_n 0, 1, 0, 0, 0, mj_u) else none) else
         (bif Nat.beq pc 36 then some (.getfield 9, 3, 9, 0, 891, .int 0) else none))) else
       (bif Nat.blt pc 42 then (bif Nat.blt pc 40 then (bif Nat.beq pc 39 then some (.imul, 1, 0, 0, 0, mj_u) else none) else
         (bif Nat.beq pc 40 then some (.iload 4, 2, 4, 0, 0, mj_u) else none)) else
        (bif Nat.blt pc 43 then (bif Nat.beq pc 42 then some (.iadd, 1, 0, 0, 0, mj_u) else none) else
         (bif Nat.beq pc 43 then some (.istore 5, 2, 5, 0, 0, mj_u) else none)))))) else
    (bif Nat.blt pc 61 then (bif Nat.blt pc 53 then (bif Nat.blt pc 49 then (bif Nat.blt pc 46 then (bif Nat.beq pc 45 then some (.iconst 4, 1, 0, 0, 0, .int 4) else none) else
        (bif Nat.blt pc 48 then (bif Nat.beq pc 46 then some (.newarray .int, 2, 0, 0, 0, mj_u) else none) else
         (bif Nat.beq pc 48 then some (.dup, 1, 0, 0, 0, mj_u) else none))) else
       (bif Nat.blt pc 50 then (bif Nat.beq pc 49 then some (.iconst 0, 1, 0, 0, 0, .int 0) else none) else
        (bif Nat.blt pc 52 then (bif Nat.beq pc 50 then some (.iload 5, 2, 5, 0, 0, mj_u) else none) else
         (bif Nat.beq pc 52 then some (.iastore, 1, 0, 0, 0, mj_u) else none)))) else
      (bif Nat.blt pc 57 then (bif Nat.blt pc 54 then (bif Nat.beq pc 53 then some (.dup, 1, 0, 0, 0, mj_u) else none) else
        (bif Nat.blt pc 55 then (bif Nat.beq pc 54 then some (.iconst 1, 1, 0, 0, 0, .int 1) else none) else
         (bif Nat.beq pc 55 then some (.iload 5, 2, 5, 0, 0, mj_u) else none))) else
       (bif Nat.blt pc 59 then (bif Nat.blt pc 58 then (bif Nat.beq pc 57 then some (.iconst 1, 1, 0, 0, 0, .int 1) else none) else
         (bif Nat.beq pc 58 then some (.iadd, 1, 0, 0, 0, mj_u) else none)) else
        (bif Nat.blt pc 60 then (bif Nat.beq pc 59 then some (.iastore, 1, 0, 0, 0, mj_u) else none) else
         (bif Nat.beq pc 60 then some (.dup, 1, 0, 0, 0, mj_u) else none))))) else
     (bif Nat.blt pc 71 then (bif Nat.blt pc 65 then (bif Nat.blt pc 62 then (bif Nat.beq pc 61 then some (.iconst 2, 1, 0, 0, 0, .int 2) else none) else
        (bif Nat.blt pc 64 then (bif Nat.beq pc 62 then some (.iload 5, 2, 5, 0, 0, mj_u) else none) else
         (bif Nat.beq pc 64 then some (.aload_n 0, 1, 0, 0, 0, mj_u) else none))) else
       (bif Nat.blt pc 69 then (bif Nat.blt pc 68 then (bif Nat.beq pc 65 then some (.getfield 9, 3, 9, 0, 891, .int 0) else none) else
         (bif Nat.beq pc 68 then some (.iadd, 1, 0, 0, 0, mj_u) else none)) else
        (bif Nat.blt pc 70 then (bif Nat.beq pc 69 then some (.iconst 1, 1, 0, 0, 0, .int 1) else none) else
         (bif Nat.beq pc 70 then some (.iadd, 1, 0, 0, 0, mj_u) else none)))) else
      (bif Nat.blt pc 74 then (bif Nat.blt pc 72 then (bif Nat.beq pc 71 then some (.iastore, 1, 0, 0, 0, mj_u) else none) else
        (bif Nat.blt pc 73 then (bif Nat.beq pc 72 then some (.dup, 1, 0, 0, 0, mj_u) else none) else
         (bif Nat.beq pc 73 then some (.iconst 3, 1, 0, 0, 0, .int 3) else none))) else
       (bif Nat.blt pc 77 then (bif Nat.blt pc 76 then (bif Nat.beq pc 74 then some (.iload 5, 2, 5, 0, 0, mj_u) else none) else
         (bif Nat.beq pc 76 then some (.aload_n 0, 1, 0, 0, 0, mj_u) else none)) else
        (bif Nat.blt pc 80 then (bif Nat.beq pc 77 then some (.getfield 9, 3, 9, 0, 891, .int 0) else none) else
         (bif Nat.beq pc 80 then some (.iadd, 1, 0, 0, 0, mj_u) else none))))))) else
   (bif Nat.blt pc 115 then (bif Nat.blt pc 97 then (bif Nat.blt pc 89 then (bif Nat.blt pc 85 then (bif Nat.blt pc 82 then (bif Nat.beq pc 81 then some (.iastore, 1, 0, 0, 0, mj_u) else none) else
        (bif Nat.blt pc 84 then (bif Nat.beq pc 82 then some (.astore 6, 2, 6, 0, 0, mj_u) else none) else
         (bif Nat.beq pc 84 then some (.iconst 4, 1, 0, 0, 0, .int 4) else none))) else
       (bif Nat.blt pc 87 then (bif Nat.beq pc 85 then some (.newarray .int, 2, 0, 0, 0, mj_u) else none) else
        (bif Nat.blt pc 88 then (bif Nat.beq pc 87 then some (.dup, 1, 0, 0, 0, mj_u) else none) else
         (bif Nat.beq pc 88 then some (.iconst 0, 1, 0, 0, 0, .int 0) else none)))) else
      (bif Nat.blt pc 93 then (bif Nat.blt pc 90 then (bif Nat.beq pc 89 then some (.iconst 2, 1, 0, 0, 0, .int 2) else none) else
        (bif Nat.blt pc 92 then (bif Nat.beq pc 90 then some (.iload 5, 2, 5, 0, 0, mj_u) else none) else
         (bif Nat.beq pc 92 then some (.imul, 1, 0, 0, 0, mj_u) else none))) else
       (bif Nat.blt pc 95 then (bif Nat.blt pc 94 then (bif Nat.beq pc 93 then some (.iastore, 1, 0, 0, 0, mj_u) else none) else
         (bif Nat.beq pc 94 then some (.dup, 1, 0, 0, 0, mj_u) else none)) else
        (bif Nat.blt pc 96 then (bif Nat.beq pc 95 then some (.iconst 1, 1, 0, 0, 0, .int 1) else none) else
         (bif Nat.beq pc 96 then some (.iconst 2, 1, 0, 0, 0, .int 2) else none))))) else
     (bif Nat.blt pc 105 then (bif Nat.blt pc 101 then (bif Nat.blt pc 99 then (bif Nat.beq pc 97 then some (.iload 5, 2, 5, 0, 0, mj_u) else none) else
        (bif Nat.blt pc 100 then (bif Nat.beq pc 99 then some (.iconst 1, 1, 0, 0, 0, .int 1) else none) else
         (bif Nat.beq pc 100 then some (.iadd, 1, 0, 0, 0, mj_u) else none))) else
       (bif Nat.blt pc 103 then (bif Nat.blt pc 102 then (bif Nat.beq pc 101 then some (.imul, 1, 0, 0, 0, mj_u) else none) else
         (bif Nat.beq pc 102 then some (.iconst 1, 1, 0, 0, 0, .int 1) else none)) else
        (bif Nat.blt pc 104 then (bif Nat.beq pc 103 then some (.iadd, 1, 0, 0, 0, mj_u) else none) else
         (bif Nat.beq pc 104 then some (.iastore, 1, 0, 0, 0, mj_u) else none)))) else
      (bif Nat.blt pc 108 then (bif Nat.blt pc 106 then (bif Nat.beq pc 105 then some (.dup, 1, 0, 0, 0, mj_u) else none) else
        (bif Nat.blt pc 107 then (bif Nat.beq pc 106 then some (.iconst 2, 1, 0, 0, 0, .int 2) else none) else
         (bif Nat.beq pc 107 then some (.iconst 2, 1, 0, 0, 0, .int 2) else none))) else
       (bif Nat.blt pc 111 then (bif Nat.blt pc 110 then (bif Nat.beq pc 108 then some (.iload 5, 2, 5, 0, 0, mj_u) else none) else
         (bif Nat.beq pc 110 then some (.aload_n 0, 1, 0, 0, 0, mj_u) else none)) else
        (bif Nat.blt pc 114 then (bif Nat.beq pc 111 then some (.getfield 9, 3, 9, 0, 891, .int 0) else none) else
         (bif Nat.beq pc 114 then some (.iadd, 1, 0, 0, 0, mj_u) else none)))))) else
    (bif Nat.blt pc 135 then (bif Nat.blt pc 123 then (bif Nat.blt pc 118 then (bif Nat.blt pc 116 then (bif Nat.beq pc 115 then some (.imul, 1, 0, 0, 0, mj_u) else none) else
        (bif Nat.blt pc 117 then (bif Nat.beq pc 116 then some (.iastore, 1, 0, 0, 0, mj_u) else none) else
         (bif Nat.beq pc 117 then some (.dup, 1, 0, 0, 0, mj_u) else none))) else
       (bif Nat.blt pc 120 then (bif Nat.blt pc 119 then (bif Nat.beq pc 118 then some (.iconst 3, 1, 0, 0, 0, .int 3) else none) else
         (bif Nat.beq pc 119 then some (.iconst 2, 1, 0, 0, 0, .int 2) else none)) else
        (bif Nat.blt pc 122 then (bif Nat.beq pc 120 then some (.iload 5, 2, 5, 0, 0, mj_u) else none) else
         (bif Nat.beq pc 122 then some (.imul, 1, 0, 0, 0, mj_u) else none)))) else
      (bif Nat.blt pc 126 then (bif Nat.blt pc 124 then (bif Nat.beq pc 123 then some (.iconst 1, 1, 0, 0, 0, .int 1) else none) else
        (bif Nat.blt pc 125 then (bif Nat.beq pc 124 then some (.iadd, 1, 0, 0, 0, mj_u) else none) else
         (bif Nat.beq pc 125 then some (.iastore, 1, 0, 0, 0, mj_u) else none))) else
       (bif Nat.blt pc 131 then (bif Nat.blt pc 128 then (bif Nat.beq pc 126 then some (.astore 7, 2, 7, 0, 0, mj_u) else none) else
         (bif Nat.beq pc 128 then some (.new 68, 3, 11, 1169, 1168, mj_u) else none)) else
        (bif Nat.blt pc 132 then (bif Nat.beq pc 131 then some (.dup, 1, 0, 0, 0, mj_u) else none) else
         (bif Nat.beq pc 132 then some (.invokespecial 70, 3, 171, 0, 1170, mj_u) else none))))) else
     (bif Nat.blt pc 146 then (bif Nat.blt pc 140 then (bif Nat.blt pc 137 then (bif Nat.beq pc 135 then some (.astore 8, 2, 8, 0, 0, mj_u) else none) else
        (bif Nat.blt pc 138 then (bif Nat.beq pc 137 then some (.iconst 0, 1, 0, 0, 0, .int 0) else none) else
         (bif Nat.beq pc 138 then some (.istore 9, 2, 9, 0, 0, mj_u) else none))) else
       (bif Nat.blt pc 143 then (bif Nat.blt pc 141 then (bif Nat.beq pc 140 then some (.iconst 0, 1, 0, 0, 0, .int 0) else none) else
         (bif Nat.beq pc 141 then some (.istore 10, 2, 10, 0, 0, mj_u) else none)) else
        (bif Nat.blt pc 145 then (bif Nat.beq pc 143 then some (.iload 10, 2, 10, 0, 0, mj_u) else none) else
         (bif Nat.beq pc 145 then some (.iconst 4, 1, 0, 0, 0, .int 4) else none)))) else
      (bif Nat.blt pc 152 then (bif Nat.blt pc 149 then (bif Nat.beq pc 146 then some (.if_icmp .ge 65, 3, 211, 0, 0, mj_u) else none) else
        (bif Nat.blt pc 150 then (bif Nat.beq pc 149 then some (.aload_n 0, 1, 0, 0, 0, mj_u) else none) else
         (bif Nat.beq pc 150 then some (.aload 6, 2, 6, 0, 0, mj_u) else none))) else
       (bif Nat.blt pc 155 then (bif Nat.blt pc 154 then (bif Nat.beq pc 152 then some (.iload 10, 2, 10, 0, 0, mj_u) else none) else
         (bif Nat.beq pc 154 then some (.iaload, 1, 0, 0, 0, mj_u) else none)) else
        (bif Nat.blt pc 156 then (bif Nat.beq pc 155 then some (.iload_n 1, 1, 1, 0, 0, mj_u) else none) else
         (bif Nat.beq pc 156 then some (.invokevirtual 71, 3, 174, 0, 1194, mj_u) else none)))))))) else
  (bif Nat.blt pc 260 then (bif Nat.blt pc 205 then (bif Nat.blt pc 180 then (bif Nat.blt pc 167 then (bif Nat.blt pc 164 then (bif Nat.blt pc 160 then (bif Nat.beq pc 159 then some (.aload_n 0, 1, 0, 0, 0, mj_u) else none) else
        (bif Nat.blt pc 162 then (bif Nat.beq pc 160 then some (.aload 6, 2, 6, 0, 0, mj_u) else none) else
         (bif Nat.beq pc 162 then some (.iload 10, 2, 10, 0, 0, mj_u) else none))) else
       (bif Nat.blt pc 165 then (bif Nat.beq pc 164 then some (.iconst 1, 1, 0, 0, 0, .int 1) else none) else
        (bif Nat.blt pc 166 then (bif Nat.beq pc 165 then some (.iadd, 1, 0, 0, 0, mj_u) else none) else
         (bif Nat.beq pc 166 then some (.iconst 4, 1, 0, 0, 0, .int 4) else none)))) else
      (bif Nat.blt pc 170 then (bif Nat.blt pc 168 then (bif Nat.beq pc 167 then some (.irem, 1, 0, 0, 0, mj_u) else none) else
        (bif Nat.blt pc 169 then (bif Nat.beq pc 168 then some (.iaload, 1, 0, 0, 0, mj_u) else none) else
         (bif Nat.beq pc 169 then some (.iload_n 1, 1, 1, 0, 0, mj_u) else none))) else
       (bif Nat.blt pc 176 then (bif Nat.blt pc 173 then (bif Nat.beq pc 170 then some (.invokevirtual 71, 3, 174, 0, 1194, mj_u) else none) else
         (bif Nat.beq pc 173 then some (.if_icmp .eq 17, 3, 190, 0, 0, mj_u) else none)) else
        (bif Nat.blt pc 178 then (bif Nat.beq pc 176 then some (.aload 8, 2, 8, 0, 0, mj_u) else none) else
         (bif Nat.beq pc 178 then some (.aload 7, 2, 7, 0, 0, mj_u) else none))))) else
     (bif Nat.blt pc 193 then (bif Nat.blt pc 186 then (bif Nat.blt pc 182 then (bif Nat.beq pc 180 then some (.iload 10, 2, 10, 0, 0, mj_u) else none) else
        (bif Nat.blt pc 183 then (bif Nat.beq pc 182 then some (.iaload, 1, 0, 0, 0, mj_u) else none) else
         (bif Nat.beq pc 183 then some (.invokestatic 75, 3, 1002, 0, 1198, mj_u) else none))) else
       (bif Nat.blt pc 190 then (bif Nat.blt pc 189 then (bif Nat.beq pc 186 then some (.invokevirtual 81, 3, 1002, 0, 1218, mj_u) else none) else
         (bif Nat.beq pc 189 then some (.pop, 1, 0, 0, 0, mj_u) else none)) else
        (bif Nat.blt pc 192 then (bif Nat.beq pc 190 then some (.iload 9, 2, 9, 0, 0, mj_u) else none) else
         (bif Nat.beq pc 192 then some (.aload_n 0, 1, 0, 0, 0, mj_u) else none)))) else
      (bif Nat.blt pc 200 then (bif Nat.blt pc 196 then (bif Nat.beq pc 193 then some (.getfield 18, 3, 9, 2, 895, .null) else none) else
        (bif Nat.blt pc 198 then (bif Nat.beq pc 196 then some (.aload 6, 2, 6, 0, 0, mj_u) else none) else
         (bif Nat.beq pc 198 then some (.iload 10, 2, 10, 0, 0, mj_u) else none))) else
       (bif Nat.blt pc 202 then (bif Nat.blt pc 201 then (bif Nat.beq pc 200 then some (.iaload, 1, 0, 0, 0, mj_u) else none) else
         (bif Nat.beq pc 201 then some (.iaload, 1, 0, 0, 0, mj_u) else none)) else
        (bif Nat.blt pc 203 then (bif Nat.beq pc 202 then some (.iadd, 1, 0, 0, 0, mj_u) else none) else
         (bif Nat.beq pc 203 then some (.istore 9, 2, 9, 0, 0, mj_u) else none)))))) else
    (bif Nat.blt pc 232 then (bif Nat.blt pc 221 then (bif Nat.blt pc 213 then (bif Nat.blt pc 208 then (bif Nat.beq pc 205 then some (.iinc 10 1, 3, 10, 0, 0, .int 1) else none) else
        (bif Nat.blt pc 211 then (bif Nat.beq pc 208 then some (.goto (-65), 3, 143, 0, 0, mj_u) else none) else
         (bif Nat.beq pc 211 then some (.aload 8, 2, 8, 0, 0, mj_u) else none))) else
       (bif Nat.blt pc 217 then (bif Nat.blt pc 216 then (bif Nat.beq pc 213 then some (.invokevirtual 85, 3, 175, 0, 1274, mj_u) else none) else
         (bif Nat.beq pc 216 then some (.iconst 2, 1, 0, 0, 0, .int 2) else none)) else
        (bif Nat.blt pc 220 then (bif Nat.beq pc 217 then some (.if_icmp .ne 41, 3, 258, 0, 0, mj_u) else none) else
         (bif Nat.beq pc 220 then some (.aload_n 2, 1, 2, 0, 0, mj_u) else none)))) else
      (bif Nat.blt pc 225 then (bif Nat.blt pc 222 then (bif Nat.beq pc 221 then some (.iconst 2, 1, 0, 0, 0, .int 2) else none) else
        (bif Nat.blt pc 224 then (bif Nat.beq pc 222 then some (.newarray .int, 2, 0, 0, 0, mj_u) else none) else
         (bif Nat.beq pc 224 then some (.dup, 1, 0, 0, 0, mj_u) else none))) else
       (bif Nat.blt pc 228 then (bif Nat.blt pc 226 then (bif Nat.beq pc 225 then some (.iconst 0, 1, 0, 0, 0, .int 0) else none) else
         (bif Nat.beq pc 226 then some (.aload 8, 2, 8, 0, 0, mj_u) else none)) else
        (bif Nat.blt pc 229 then (bif Nat.beq pc 228 then some (.iconst 0, 1, 0, 0, 0, .int 0) else none) else
         (bif Nat.beq pc 229 then some (.invokevirtual 86, 3, 1002, 0, 1278, mj_u) else none))))) else
     (bif Nat.blt pc 244 then (bif Nat.blt pc 239 then (bif Nat.blt pc 235 then (bif Nat.beq pc 232 then some (.checkcast 76, 3, 0, 0, 0, mj_u) else none) else
        (bif Nat.blt pc 238 then (bif Nat.beq pc 235 then some (.invokevirtual 90, 3, 1002, 0, 1293, mj_u) else none) else
         (bif Nat.beq pc 238 then some (.iastore, 1, 0, 0, 0, mj_u) else none))) else
       (bif Nat.blt pc 241 then (bif Nat.blt pc 240 then (bif Nat.beq pc 239 then some (.dup, 1, 0, 0, 0, mj_u) else none) else
         (bif Nat.beq pc 240 then some (.iconst 1, 1, 0, 0, 0, .int 1) else none)) else
        (bif Nat.blt pc 243 then (bif Nat.beq pc 241 then some (.aload 8, 2, 8, 0, 0, mj_u) else none) else
         (bif Nat.beq pc 243 then some (.iconst 1, 1, 0, 0, 0, .int 1) else none)))) else
      (bif Nat.blt pc 253 then (bif Nat.blt pc 247 then (bif Nat.beq pc 244 then some (.invokevirtual 86, 3, 1002, 0, 1278, mj_u) else none) else
        (bif Nat.blt pc 250 then (bif Nat.beq pc 247 then some (.checkcast 76, 3, 0, 0, 0, mj_u) else none) else
         (bif Nat.beq pc 250 then some (.invokevirtual 90, 3, 1002, 0, 1293, mj_u) else none))) else
       (bif Nat.blt pc 257 then (bif Nat.blt pc 254 then (bif Nat.beq pc 253 then some (.iastore, 1, 0, 0, 0, mj_u) else none) else
         (bif Nat.beq pc 254 then some (.invokevirtual 81, 3, 1002, 0, 1218, mj_u) else none)) else
        (bif Nat.blt pc 258 then (bif Nat.beq pc 257 then some (.pop, 1, 0, 0, 0, mj_u) else none) else
         (bif Nat.beq pc 258 then some (.aload 8, 2, 8, 0, 0, mj_u) else none))))))) else
   (bif Nat.blt pc 310 then (bif Nat.blt pc 285 then (bif Nat.blt pc 273 then (bif Nat.blt pc 267 then (bif Nat.blt pc 263 then (bif Nat.beq pc 260 then some (.invokevirtual 85, 3, 175, 0, 1274, mj_u) else none) else
        (bif Nat.blt pc 264 then (bif Nat.beq pc 263 then some (.iconst 4, 1, 0, 0, 0, .int 4) else none) else
         (bif Nat.beq pc 264 then some (.if_icmp .ge 6, 3, 270, 0, 0, mj_u) else none))) else
       (bif Nat.blt pc 270 then (bif Nat.beq pc 267 then some (.goto 76, 3, 343, 0, 0, mj_u) else none) else
        (bif Nat.blt pc 272 then (bif Nat.beq pc 270 then some (.iload 9, 2, 9, 0, 0, mj_u) else none) else
         (bif Nat.beq pc 272 then some (.iconst 4, 1, 0, 0, 0, .int 4) else none)))) else
      (bif Nat.blt pc 278 then (bif Nat.blt pc 274 then (bif Nat.beq pc 273 then some (.iload_n 1, 1, 1, 0, 0, mj_u) else none) else
        (bif Nat.blt pc 275 then (bif Nat.beq pc 274 then some (.imul, 1, 0, 0, 0, mj_u) else none) else
         (bif Nat.beq pc 275 then some (.if_icmp .le 7, 3, 282, 0, 0, mj_u) else none))) else
       (bif Nat.blt pc 282 then (bif Nat.blt pc 279 then (bif Nat.beq pc 278 then some (.iconst 1, 1, 0, 0, 0, .int 1) else none) else
         (bif Nat.beq pc 279 then some (.goto 4, 3, 283, 0, 0, mj_u) else none)) else
        (bif Nat.blt pc 283 then (bif Nat.beq pc 282 then some (.iconst 0, 1, 0, 0, 0, .int 0) else none) else
         (bif Nat.beq pc 283 then some (.istore 10, 2, 10, 0, 0, mj_u) else none))))) else
     (bif Nat.blt pc 297 then (bif Nat.blt pc 290 then (bif Nat.blt pc 286 then (bif Nat.beq pc 285 then some (.iconst 0, 1, 0, 0, 0, .int 0) else none) else
        (bif Nat.blt pc 288 then (bif Nat.beq pc 286 then some (.istore 11, 2, 11, 0, 0, mj_u) else none) else
         (bif Nat.beq pc 288 then some (.iload 11, 2, 11, 0, 0, mj_u) else none))) else
       (bif Nat.blt pc 294 then (bif Nat.blt pc 291 then (bif Nat.beq pc 290 then some (.iconst 4, 1, 0, 0, 0, .int 4) else none) else
         (bif Nat.beq pc 291 then some (.if_icmp .ge 52, 3, 343, 0, 0, mj_u) else none)) else
        (bif Nat.blt pc 295 then (bif Nat.beq pc 294 then some (.aload_n 0, 1, 0, 0, 0, mj_u) else none) else
         (bif Nat.beq pc 295 then some (.aload 6, 2, 6, 0, 0, mj_u) else none)))) else
      (bif Nat.blt pc 301 then (bif Nat.blt pc 299 then (bif Nat.beq pc 297 then some (.iload 11, 2, 11, 0, 0, mj_u) else none) else
        (bif Nat.blt pc 300 then (bif Nat.beq pc 299 then some (.iaload, 1, 0, 0, 0, mj_u) else none) else
         (bif Nat.beq pc 300 then some (.iload_n 1, 1, 1, 0, 0, mj_u) else none))) else
       (bif Nat.blt pc 306 then (bif Nat.blt pc 304 then (bif Nat.beq pc 301 then some (.invokevirtual 71, 3, 174, 0, 1194, mj_u) else none) else
         (bif Nat.beq pc 304 then some (.iload 10, 2, 10, 0, 0, mj_u) else none)) else
        (bif Nat.blt pc 309 then (bif Nat.beq pc 306 then some (.if_icmp .eq 31, 3, 337, 0, 0, mj_u) else none) else
         (bif Nat.beq pc 309 then some (.aload_n 2, 1, 2, 0, 0, mj_u) else none)))))) else
    (bif Nat.blt pc 327 then (bif Nat.blt pc 320 then (bif Nat.blt pc 314 then (bif Nat.blt pc 311 then (bif Nat.beq pc 310 then some (.iconst 2, 1, 0, 0, 0, .int 2) else none) else
        (bif Nat.blt pc 313 then (bif Nat.beq pc 311 then some (.newarray .int, 2, 0, 0, 0, mj_u) else none) else
         (bif Nat.beq pc 313 then some (.dup, 1, 0, 0, 0, mj_u) else none))) else
       (bif Nat.blt pc 317 then (bif Nat.blt pc 315 then (bif Nat.beq pc 314 then some (.iconst 0, 1, 0, 0, 0, .int 0) else none) else
         (bif Nat.beq pc 315 then some (.aload 7, 2, 7, 0, 0, mj_u) else none)) else
        (bif Nat.blt pc 319 then (bif Nat.beq pc 317 then some (.iload 11, 2, 11, 0, 0, mj_u) else none) else
         (bif Nat.beq pc 319 then some (.iconst 3, 1, 0, 0, 0, .int 3) else none)))) else
      (bif Nat.blt pc 323 then (bif Nat.blt pc 321 then (bif Nat.beq pc 320 then some (.iadd, 1, 0, 0, 0, mj_u) else none) else
        (bif Nat.blt pc 322 then (bif Nat.beq pc 321 then some (.iconst 4, 1, 0, 0, 0, .int 4) else none) else
         (bif Nat.beq pc 322 then some (.irem, 1, 0, 0, 0, mj_u) else none))) else
       (bif Nat.blt pc 325 then (bif Nat.blt pc 324 then (bif Nat.beq pc 323 then some (.iaload, 1, 0, 0, 0, mj_u) else none) else
         (bif Nat.beq pc 324 then some (.iastore, 1, 0, 0, 0, mj_u) else none)) else
        (bif Nat.blt pc 326 then (bif Nat.beq pc 325 then some (.dup, 1, 0, 0, 0, mj_u) else none) else
         (bif Nat.beq pc 326 then some (.iconst 1, 1, 0, 0, 0, .int 1) else none))))) else
     (bif Nat.blt pc 340 then (bif Nat.blt pc 332 then (bif Nat.blt pc 329 then (bif Nat.beq pc 327 then some (.aload 7, 2, 7, 0, 0, mj_u) else none) else
        (bif Nat.blt pc 331 then (bif Nat.beq pc 329 then some (.iload 11, 2, 11, 0, 0, mj_u) else none) else
         (bif Nat.beq pc 331 then some (.iaload, 1, 0, 0, 0, mj_u) else none))) else
       (bif Nat.blt pc 336 then (bif Nat.blt pc 333 then (bif Nat.beq pc 332 then some (.iastore, 1, 0, 0, 0, mj_u) else none) else
         (bif Nat.beq pc 333 then some (.invokevirtual 81, 3, 1002, 0, 1218, mj_u) else none)) else
        (bif Nat.blt pc 337 then (bif Nat.beq pc 336 then some (.pop, 1, 0, 0, 0, mj_u) else none) else
         (bif Nat.beq pc 337 then some (.iinc 11 1, 3, 11, 0, 0, .int 1) else none)))) else
      (bif Nat.blt pc 349 then (bif Nat.blt pc 343 then (bif Nat.beq pc 340 then some (.goto (-52), 3, 288, 0, 0, mj_u) else none) else
        (bif Nat.blt pc 346 then (bif Nat.beq pc 343 then some (.iinc 4 1, 3, 4, 0, 0, .int 1) else none) else
         (bif Nat.beq pc 346 then some (.goto (-323), 3, 23, 0, 0, mj_u) else none))) else
       (bif Nat.blt pc 355 then (bif Nat.blt pc 352 then (bif Nat.beq pc 349 then some (.iinc 3 1, 3, 3, 0, 0, .int 1) else none) else
         (bif Nat.beq pc 352 then some (.goto (-342), 3, 10, 0, 0, mj_u) else none)) else
        (bif Nat.blt pc 356 then (bif Nat.beq pc 355 then some (.aload_n 2, 1, 2, 0, 0, mj_u) else none) else
         (bif Nat.beq pc 356 then some (.areturn, 1, 0, 0, 0, mj_u) else none))))))))
def m_ML_pieces : mj_M := (170, prog_12_method_20_code, 12, (Option.some (Jvm.ClassFile.FieldType.object "java/util/ArrayList")), 9, 1, 1167, 1165, 1166, 56, 357, k_ML_pieces)
/-- java/util/ArrayList.<init>()V -/
def k_ArrayList_init : Nat → Option mj_I := fun pc =>
  bif Nat.blt pc 5 then (bif Nat.blt pc 1 then (bif Nat.beq pc 0 then some (.aload_n 0, 1, 0, 0, 0, mj_u) else none) else
   (bif Nat.blt pc 4 then (bif Nat.beq pc 1 then some (.invokespecial 1, 3, 172, 0, 1173, mj_u) else none) else
    (bif Nat.beq pc 4 then some (.aload_n 0, 1, 0, 0, 0, mj_u) else none))) else
  (bif Nat.blt pc 8 then (bif Nat.beq pc 5 then some (.getstatic 39, 3, 5, 0, 1180, mj_u) else none) else
   (bif Nat.blt pc 11 then (bif Nat.beq pc 8 then some (.putfield 9, 3, 11, 1, 1182, .null) else none) else
    (bif Nat.beq pc 11 then some (.return_, 1, 0, 0, 0, mj_u) else none)))
def m_ArrayList_init : mj_M := (171, prog_32_method_2_code, 1, (Option.none : Option Jvm.ClassFile.FieldType), 11, 0, 1172, 1171, 0, 65, 12, k_ArrayList_init)
/-- java/util/AbstractList.<init>()V -/
def k_AbstractList_init : Nat → Option mj_I := fun pc =>
  bif Nat.blt pc 5 then (bif Nat.blt pc 1 then (bif Nat.beq pc 0 then some (.aload_n 0, 1, 0, 0, 0, mj_u) else none) else
   (bif Nat.blt pc 4 then (bif Nat.beq pc 1 then some (.invokespecial 1, 3, 173, 0, 1176, mj_u) else none) else
    (bif Nat.beq pc 4 then some (.aload_n 0, 1, 0, 0, 0, mj_u) else none))) else
  (bif Nat.blt pc 6 then (bif Nat.beq pc 5 then some (.iconst 0, 1, 0, 0, 0, .int 0) else none) else
   (bif Nat.blt pc 9 then (bif Nat.beq pc 6 then some (.putfield 7, 3, 11, 0, 1184, .int 0) else none) else
    (bif Nat.beq pc 9 then some (.return_, 1, 0, 0, 0, mj_u) else none)))
def m_AbstractList_init : mj_M := (172, prog_31_method_1_code, 1, (Option.none : Option Jvm.ClassFile.FieldType), 15, 0, 1175, 1174, 0, 64, 10, k_AbstractList_init)
/-- java/util/AbstractCollection.<init>()V -/
def k_AbstractCollection_init : Nat → Option mj_I := fun pc =>
  bif Nat.blt pc 1 then (bif Nat.beq pc 0 then some (.aload_n 0, 1, 0, 0, 0, mj_u) else none) else
  (bif Nat.blt pc 4 then (bif Nat.beq pc 1 then some (.invokespecial 1, 3, 1000, 0, 1179, mj_u) else none) else
   (bif Nat.beq pc 4 then some (.return_, 1, 0, 0, 0, mj_u) else none))
def m_AbstractCollection_init : mj_M := (173, prog_30_method_1_code, 1, (Option.none : Option Jvm.ClassFile.FieldType), 16, 0, 1178, 1177, 0, 63, 5, k_AbstractCollection_init)
/-- WatershedMapModel$Land.isHigh(II)Z -/
def k_ML_isHigh : Nat → Option mj_I := fun pc =>
  bif Nat.blt pc 7 then (bif Nat.blt pc 4 then (bif Nat.blt pc 1 then (bif Nat.beq pc 0 then some (.aload_n 0, 1, 0, 0, 0, mj_u) else none) else
    (bif Nat.beq pc 1 then some (.getfield 18, 3, 9, 2, 895, .null) else none)) else
   (bif Nat.blt pc 5 then (bif Nat.beq pc 4 then some (.iload_n 1, 1, 1, 0, 0, mj_u) else none) else
    (bif Nat.blt pc 6 then (bif Nat.beq pc 5 then some (.iaload, 1, 0, 0, 0, mj_u) else none) else
     (bif Nat.beq pc 6 then some (.iload_n 2, 1, 2, 0, 0, mj_u) else none)))) else
  (bif Nat.blt pc 11 then (bif Nat.blt pc 10 then (bif Nat.beq pc 7 then some (.if_icmp .le 7, 3, 14, 0, 0, mj_u) else none) else
    (bif Nat.beq pc 10 then some (.iconst 1, 1, 0, 0, 0, .int 1) else none)) else
   (bif Nat.blt pc 14 then (bif Nat.beq pc 11 then some (.goto 4, 3, 15, 0, 0, mj_u) else none) else
    (bif Nat.blt pc 15 then (bif Nat.beq pc 14 then some (.iconst 0, 1, 0, 0, 0, .int 0) else none) else
     (bif Nat.beq pc 15 then some (.ireturn, 1, 0, 0, 0, mj_u) else none))))
def m_ML_isHigh : mj_M := (174, prog_12_method_19_code, 3, (Option.some Jvm.ClassFile.FieldType.boolean), 9, 2, 1197, 1196, 39, 56, 16, k_ML_isHigh)
/-- java/util/ArrayList.size()I -/
def k_ArrayList_size : Nat → Option mj_I := fun pc =>
  bif Nat.blt pc 1 then (bif Nat.beq pc 0 then some (.aload_n 0, 1, 0, 0, 0, mj_u) else none) else
  (bif Nat.blt pc 4 then (bif Nat.beq pc 1 then some (.getfield 48, 3, 11, 2, 1183, .int 0) else none) else
   (bif Nat.beq pc 4 then some (.ireturn, 1, 0, 0, 0, mj_u) else none))
def m_ArrayList_size : mj_M := (175, prog_32_method_8_code, 1, (Option.some Jvm.ClassFile.FieldType.int), 11, 0, 1277, 1275, 1276, 65, 5, k_ArrayList_size)
/-- WatershedMapModel$Land.haveOne([I[I)Z static -/
def k_ML_haveOne : Nat → Option mj_I := fun pc =>
  bif Nat.blt pc 20 then (bif Nat.blt pc 10 then (bif Nat.blt pc 4 then (bif Nat.blt pc 2 then (bif Nat.blt pc 1 then (bif Nat.beq pc 0 then some (.aload_n 0, 1, 0, 0, 0, mj_u) else none) else
      (bif Nat.beq pc 1 then some (.iconst 0, 1, 0, 0, 0, .int 0) else none)) else
     (bif Nat.blt pc 3 then (bif Nat.beq pc 2 then some (.iaload, 1, 0, 0, 0, mj_u) else none) else
      (bif Nat.beq pc 3 then some (.aload_n 1, 1, 1, 0, 0, mj_u) else none))) else
    (bif Nat.blt pc 6 then (bif Nat.blt pc 5 then (bif Nat.beq pc 4 then some (.iconst 0, 1, 0, 0, 0, .int 0) else none) else
      (bif Nat.beq pc 5 then some (.iaload, 1, 0, 0, 0, mj_u) else none)) else
     (bif Nat.blt pc 9 then (bif Nat.beq pc 6 then some (.if_icmp .eq 30, 3, 36, 0, 0, mj_u) else none) else
      (bif Nat.beq pc 9 then some (.aload_n 0, 1, 0, 0, 0, mj_u) else none)))) else
   (bif Nat.blt pc 14 then (bif Nat.blt pc 12 then (bif Nat.blt pc 11 then (bif Nat.beq pc 10 then some (.iconst 0, 1, 0, 0, 0, .int 0) else none) else
      (bif Nat.beq pc 11 then some (.iaload, 1, 0, 0, 0, mj_u) else none)) else
     (bif Nat.blt pc 13 then (bif Nat.beq pc 12 then some (.aload_n 1, 1, 1, 0, 0, mj_u) else none) else
      (bif Nat.beq pc 13 then some (.iconst 1, 1, 0, 0, 0, .int 1) else none))) else
    (bif Nat.blt pc 18 then (bif Nat.blt pc 15 then (bif Nat.beq pc 14 then some (.iaload, 1, 0, 0, 0, mj_u) else none) else
      (bif Nat.beq pc 15 then some (.if_icmp .eq 21, 3, 36, 0, 0, mj_u) else none)) else
     (bif Nat.blt pc 19 then (bif Nat.beq pc 18 then some (.aload_n 0, 1, 0, 0, 0, mj_u) else none) else
      (bif Nat.beq pc 19 then some (.iconst 1, 1, 0, 0, 0, .int 1) else none))))) else
  (bif Nat.blt pc 30 then (bif Nat.blt pc 24 then (bif Nat.blt pc 22 then (bif Nat.blt pc 21 then (bif Nat.beq pc 20 then some (.iaload, 1, 0, 0, 0, mj_u) else none) else
      (bif Nat.beq pc 21 then some (.aload_n 1, 1, 1, 0, 0, mj_u) else none)) else
     (bif Nat.blt pc 23 then (bif Nat.beq pc 22 then some (.iconst 0, 1, 0, 0, 0, .int 0) else none) else
      (bif Nat.beq pc 23 then some (.iaload, 1, 0, 0, 0, mj_u) else none))) else
    (bif Nat.blt pc 28 then (bif Nat.blt pc 27 then (bif Nat.beq pc 24 then some (.if_icmp .eq 12, 3, 36, 0, 0, mj_u) else none) else
      (bif Nat.beq pc 27 then some (.aload_n 0, 1, 0, 0, 0, mj_u) else none)) else
     (bif Nat.blt pc 29 then (bif Nat.beq pc 28 then some (.iconst 1, 1, 0, 0, 0, .int 1) else none) else
      (bif Nat.beq pc 29 then some (.iaload, 1, 0, 0, 0, mj_u) else none)))) else
   (bif Nat.blt pc 36 then (bif Nat.blt pc 32 then (bif Nat.blt pc 31 then (bif Nat.beq pc 30 then some (.aload_n 1, 1, 1, 0, 0, mj_u) else none) else
      (bif Nat.beq pc 31 then some (.iconst 1, 1, 0, 0, 0, .int 1) else none)) else
     (bif Nat.blt pc 33 then (bif Nat.beq pc 32 then some (.iaload, 1, 0, 0, 0, mj_u) else none) else
      (bif Nat.beq pc 33 then some (.if_icmp .ne 7, 3, 40, 0, 0, mj_u) else none))) else
    (bif Nat.blt pc 40 then (bif Nat.blt pc 37 then (bif Nat.beq pc 36 then some (.iconst 1, 1, 0, 0, 0, .int 1) else none) else
      (bif Nat.beq pc 37 then some (.goto 4, 3, 41, 0, 0, mj_u) else none)) else
     (bif Nat.blt pc 41 then (bif Nat.beq pc 40 then some (.iconst 0, 1, 0, 0, 0, .int 0) else none) else
      (bif Nat.beq pc 41 then some (.ireturn, 1, 0, 0, 0, mj_u) else none)))))
def m_ML_haveOne : mj_M := (176, prog_12_method_22_code, 2, (Option.some Jvm.ClassFile.FieldType.boolean), 9, 2, 1299, 1298, 0, 56, 42, k_ML_haveOne)
/-- WatershedMapModel$Land.isTwice(Ljava/util/ArrayList;I)Z static -/
def k_ML_isTwice : Nat → Option mj_I := fun pc =>
  bif Nat.blt pc 33 then (bif Nat.blt pc 14 then (bif Nat.blt pc 5 then (bif Nat.blt pc 2 then (bif Nat.blt pc 1 then (bif Nat.beq pc 0 then some (.iconst 0, 1, 0, 0, 0, .int 0) else none) else
      (bif Nat.beq pc 1 then some (.istore_n 2, 1, 2, 0, 0, mj_u) else none)) else
     (bif Nat.blt pc 3 then (bif Nat.beq pc 2 then some (.iconst 0, 1, 0, 0, 0, .int 0) else none) else
      (bif Nat.blt pc 4 then (bif Nat.beq pc 3 then some (.istore_n 3, 1, 3, 0, 0, mj_u) else none) else
       (bif Nat.beq pc 4 then some (.iload_n 3, 1, 3, 0, 0, mj_u) else none)))) else
    (bif Nat.blt pc 9 then (bif Nat.blt pc 6 then (bif Nat.beq pc 5 then some (.aload_n 0, 1, 0, 0, 0, mj_u) else none) else
      (bif Nat.beq pc 6 then some (.invokevirtual 85, 3, 175, 0, 1274, mj_u) else none)) else
     (bif Nat.blt pc 12 then (bif Nat.beq pc 9 then some (.if_icmp .ge 51, 3, 60, 0, 0, mj_u) else none) else
      (bif Nat.blt pc 13 then (bif Nat.beq pc 12 then some (.iload_n 2, 1, 2, 0, 0, mj_u) else none) else
       (bif Nat.beq pc 13 then some (.aload_n 0, 1, 0, 0, 0, mj_u) else none))))) else
   (bif Nat.blt pc 23 then (bif Nat.blt pc 18 then (bif Nat.blt pc 15 then (bif Nat.beq pc 14 then some (.iload_n 3, 1, 3, 0, 0, mj_u) else none) else
      (bif Nat.beq pc 15 then some (.invokevirtual 86, 3, 1002, 0, 1278, mj_u) else none)) else
     (bif Nat.blt pc 21 then (bif Nat.beq pc 18 then some (.checkcast 29, 3, 0, 0, 0, mj_u) else none) else
      (bif Nat.blt pc 22 then (bif Nat.beq pc 21 then some (.iconst 0, 1, 0, 0, 0, .int 0) else none) else
       (bif Nat.beq pc 22 then some (.iaload, 1, 0, 0, 0, mj_u) else none)))) else
    (bif Nat.blt pc 28 then (bif Nat.blt pc 24 then (bif Nat.beq pc 23 then some (.iload_n 1, 1, 1, 0, 0, mj_u) else none) else
      (bif Nat.blt pc 27 then (bif Nat.beq pc 24 then some (.if_icmp .ne 7, 3, 31, 0, 0, mj_u) else none) else
       (bif Nat.beq pc 27 then some (.iconst 1, 1, 0, 0, 0, .int 1) else none))) else
     (bif Nat.blt pc 31 then (bif Nat.beq pc 28 then some (.goto 4, 3, 32, 0, 0, mj_u) else none) else
      (bif Nat.blt pc 32 then (bif Nat.beq pc 31 then some (.iconst 0, 1, 0, 0, 0, .int 0) else none) else
       (bif Nat.beq pc 32 then some (.aload_n 0, 1, 0, 0, 0, mj_u) else none)))))) else
  (bif Nat.blt pc 52 then (bif Nat.blt pc 42 then (bif Nat.blt pc 37 then (bif Nat.blt pc 34 then (bif Nat.beq pc 33 then some (.iload_n 3, 1, 3, 0, 0, mj_u) else none) else
      (bif Nat.beq pc 34 then some (.invokevirtual 86, 3, 1002, 0, 1278, mj_u) else none)) else
     (bif Nat.blt pc 40 then (bif Nat.beq pc 37 then some (.checkcast 29, 3, 0, 0, 0, mj_u) else none) else
      (bif Nat.blt pc 41 then (bif Nat.beq pc 40 then some (.iconst 1, 1, 0, 0, 0, .int 1) else none) else
       (bif Nat.beq pc 41 then some (.iaload, 1, 0, 0, 0, mj_u) else none)))) else
    (bif Nat.blt pc 47 then (bif Nat.blt pc 43 then (bif Nat.beq pc 42 then some (.iload_n 1, 1, 1, 0, 0, mj_u) else none) else
      (bif Nat.blt pc 46 then (bif Nat.beq pc 43 then some (.if_icmp .ne 7, 3, 50, 0, 0, mj_u) else none) else
       (bif Nat.beq pc 46 then some (.iconst 1, 1, 0, 0, 0, .int 1) else none))) else
     (bif Nat.blt pc 50 then (bif Nat.beq pc 47 then some (.goto 4, 3, 51, 0, 0, mj_u) else none) else
      (bif Nat.blt pc 51 then (bif Nat.beq pc 50 then some (.iconst 0, 1, 0, 0, 0, .int 0) else none) else
       (bif Nat.beq pc 51 then some (.iadd, 1, 0, 0, 0, mj_u) else none))))) else
   (bif Nat.blt pc 61 then (bif Nat.blt pc 54 then (bif Nat.blt pc 53 then (bif Nat.beq pc 52 then some (.iadd, 1, 0, 0, 0, mj_u) else none) else
      (bif Nat.beq pc 53 then some (.istore_n 2, 1, 2, 0, 0, mj_u) else none)) else
     (bif Nat.blt pc 57 then (bif Nat.beq pc 54 then some (.iinc 3 1, 3, 3, 0, 0, .int 1) else none) else
      (bif Nat.blt pc 60 then (bif Nat.beq pc 57 then some (.goto (-53), 3, 4, 0, 0, mj_u) else none) else
       (bif Nat.beq pc 60 then some (.iload_n 2, 1, 2, 0, 0, mj_u) else none)))) else
    (bif Nat.blt pc 66 then (bif Nat.blt pc 62 then (bif Nat.beq pc 61 then some (.iconst 2, 1, 0, 0, 0, .int 2) else none) else
      (bif Nat.blt pc 65 then (bif Nat.beq pc 62 then some (.if_icmp .ne 7, 3, 69, 0, 0, mj_u) else none) else
       (bif Nat.beq pc 65 then some (.iconst 1, 1, 0, 0, 0, .int 1) else none))) else
     (bif Nat.blt pc 69 then (bif Nat.beq pc 66 then some (.goto 4, 3, 70, 0, 0, mj_u) else none) else
      (bif Nat.blt pc 70 then (bif Nat.beq pc 69 then some (.iconst 0, 1, 0, 0, 0, .int 0) else none) else
       (bif Nat.beq pc 70 then some (.ireturn, 1, 0, 0, 0, mj_u) else none))))))
def m_ML_isTwice : mj_M := (177, prog_12_method_23_code, 4, (Option.some Jvm.ClassFile.FieldType.boolean), 9, 2, 1302, 1301, 0, 56, 71, k_ML_isTwice)
/-- WatershedMapModel.sees(IIIII)Z -/
def k_M_sees : Nat → Option mj_I := fun pc =>
  bif Nat.blt pc 45 then (bif Nat.blt pc 21 then (bif Nat.blt pc 7 then (bif Nat.blt pc 2 then (bif Nat.blt pc 1 then (bif Nat.beq pc 0 then some (.aload_n 0, 1, 0, 0, 0, mj_u) else none) else
      (bif Nat.beq pc 1 then some (.aload_n 0, 1, 0, 0, 0, mj_u) else none)) else
     (bif Nat.blt pc 3 then (bif Nat.beq pc 2 then some (.iload_n 1, 1, 1, 0, 0, mj_u) else none) else
      (bif Nat.blt pc 4 then (bif Nat.beq pc 3 then some (.iload_n 2, 1, 2, 0, 0, mj_u) else none) else
       (bif Nat.beq pc 4 then some (.invokevirtual 48, 3, 120, 0, 941, mj_u) else none)))) else
    (bif Nat.blt pc 13 then (bif Nat.blt pc 10 then (bif Nat.beq pc 7 then some (.ifCond .ne 14, 3, 21, 0, 0, mj_u) else none) else
      (bif Nat.blt pc 11 then (bif Nat.beq pc 10 then some (.aload_n 0, 1, 0, 0, 0, mj_u) else none) else
       (bif Nat.beq pc 11 then some (.iload 4, 2, 4, 0, 0, mj_u) else none))) else
     (bif Nat.blt pc 15 then (bif Nat.beq pc 13 then some (.iload 5, 2, 5, 0, 0, mj_u) else none) else
      (bif Nat.blt pc 18 then (bif Nat.beq pc 15 then some (.invokevirtual 48, 3, 120, 0, 941, mj_u) else none) else
       (bif Nat.beq pc 18 then some (.ifCond .eq 7, 3, 25, 0, 0, mj_u) else none))))) else
   (bif Nat.blt pc 33 then (bif Nat.blt pc 26 then (bif Nat.blt pc 22 then (bif Nat.beq pc 21 then some (.iconst 1, 1, 0, 0, 0, .int 1) else none) else
      (bif Nat.blt pc 25 then (bif Nat.beq pc 22 then some (.goto 4, 3, 26, 0, 0, mj_u) else none) else
       (bif Nat.beq pc 25 then some (.iconst 0, 1, 0, 0, 0, .int 0) else none))) else
     (bif Nat.blt pc 27 then (bif Nat.beq pc 26 then some (.iconst 1, 1, 0, 0, 0, .int 1) else none) else
      (bif Nat.blt pc 30 then (bif Nat.beq pc 27 then some (.invokevirtual 52, 3, 116, 0, 925, mj_u) else none) else
       (bif Nat.beq pc 30 then some (.ifCond .ne 56, 3, 86, 0, 0, mj_u) else none)))) else
    (bif Nat.blt pc 36 then (bif Nat.blt pc 34 then (bif Nat.beq pc 33 then some (.aload_n 0, 1, 0, 0, 0, mj_u) else none) else
      (bif Nat.blt pc 35 then (bif Nat.beq pc 34 then some (.iload_n 3, 1, 3, 0, 0, mj_u) else none) else
       (bif Nat.beq pc 35 then some (.iconst 0, 1, 0, 0, 0, .int 0) else none))) else
     (bif Nat.blt pc 39 then (bif Nat.beq pc 36 then some (.sipush 500, 3, 0, 0, 0, .int 500) else none) else
      (bif Nat.blt pc 42 then (bif Nat.beq pc 39 then some (.invokestatic 41, 3, 115, 0, 922, mj_u) else none) else
       (bif Nat.beq pc 42 then some (.ifCond .ne 7, 3, 49, 0, 0, mj_u) else none)))))) else
  (bif Nat.blt pc 64 then (bif Nat.blt pc 54 then (bif Nat.blt pc 49 then (bif Nat.blt pc 46 then (bif Nat.beq pc 45 then some (.iconst 1, 1, 0, 0, 0, .int 1) else none) else
      (bif Nat.beq pc 46 then some (.goto 4, 3, 50, 0, 0, mj_u) else none)) else
     (bif Nat.blt pc 50 then (bif Nat.beq pc 49 then some (.iconst 0, 1, 0, 0, 0, .int 0) else none) else
      (bif Nat.blt pc 51 then (bif Nat.beq pc 50 then some (.iconst 2, 1, 0, 0, 0, .int 2) else none) else
       (bif Nat.beq pc 51 then some (.invokevirtual 34, 3, 117, 0, 929, mj_u) else none)))) else
    (bif Nat.blt pc 61 then (bif Nat.blt pc 57 then (bif Nat.beq pc 54 then some (.ifCond .ne 32, 3, 86, 0, 0, mj_u) else none) else
      (bif Nat.blt pc 58 then (bif Nat.beq pc 57 then some (.aload_n 0, 1, 0, 0, 0, mj_u) else none) else
       (bif Nat.beq pc 58 then some (.getfield 23, 3, 10, 1, 905, .null) else none))) else
     (bif Nat.blt pc 62 then (bif Nat.beq pc 61 then some (.aload_n 0, 1, 0, 0, 0, mj_u) else none) else
      (bif Nat.blt pc 63 then (bif Nat.beq pc 62 then some (.iload_n 1, 1, 1, 0, 0, mj_u) else none) else
       (bif Nat.beq pc 63 then some (.iload_n 2, 1, 2, 0, 0, mj_u) else none))))) else
   (bif Nat.blt pc 76 then (bif Nat.blt pc 69 then (bif Nat.blt pc 67 then (bif Nat.beq pc 64 then some (.invokevirtual 66, 3, 121, 0, 945, mj_u) else none) else
      (bif Nat.blt pc 68 then (bif Nat.beq pc 67 then some (.iload_n 3, 1, 3, 0, 0, mj_u) else none) else
       (bif Nat.beq pc 68 then some (.aload_n 0, 1, 0, 0, 0, mj_u) else none))) else
     (bif Nat.blt pc 71 then (bif Nat.beq pc 69 then some (.iload 4, 2, 4, 0, 0, mj_u) else none) else
      (bif Nat.blt pc 73 then (bif Nat.beq pc 71 then some (.iload 5, 2, 5, 0, 0, mj_u) else none) else
       (bif Nat.beq pc 73 then some (.invokevirtual 66, 3, 121, 0, 945, mj_u) else none)))) else
    (bif Nat.blt pc 83 then (bif Nat.blt pc 79 then (bif Nat.beq pc 76 then some (.invokevirtual 165, 3, 179, 0, 1307, mj_u) else none) else
      (bif Nat.blt pc 82 then (bif Nat.beq pc 79 then some (.ifCond .eq 7, 3, 86, 0, 0, mj_u) else none) else
       (bif Nat.beq pc 82 then some (.iconst 1, 1, 0, 0, 0, .int 1) else none))) else
     (bif Nat.blt pc 86 then (bif Nat.beq pc 83 then some (.goto 4, 3, 87, 0, 0, mj_u) else none) else
      (bif Nat.blt pc 87 then (bif Nat.beq pc 86 then some (.iconst 0, 1, 0, 0, 0, .int 0) else none) else
       (bif Nat.beq pc 87 then some (.ireturn, 1, 0, 0, 0, mj_u) else none))))))
def m_M_sees : mj_M := (178, prog_11_method_39_code, 6, (Option.some Jvm.ClassFile.FieldType.boolean), 10, 5, 1306, 1304, 1305, 55, 88, k_M_sees)
/-- WatershedMapModel$Land.sees(III)Z -/
def k_ML_sees : Nat → Option mj_I := fun pc =>
  bif Nat.blt pc 37 then (bif Nat.blt pc 16 then (bif Nat.blt pc 8 then (bif Nat.blt pc 2 then (bif Nat.blt pc 1 then (bif Nat.beq pc 0 then some (.aload_n 0, 1, 0, 0, 0, mj_u) else none) else
      (bif Nat.beq pc 1 then some (.iload_n 1, 1, 1, 0, 0, mj_u) else none)) else
     (bif Nat.blt pc 3 then (bif Nat.beq pc 2 then some (.iload_n 3, 1, 3, 0, 0, mj_u) else none) else
      (bif Nat.blt pc 6 then (bif Nat.beq pc 3 then some (.invokevirtual 111, 3, 131, 0, 1311, mj_u) else none) else
       (bif Nat.beq pc 6 then some (.istore 4, 2, 4, 0, 0, mj_u) else none)))) else
    (bif Nat.blt pc 13 then (bif Nat.blt pc 9 then (bif Nat.beq pc 8 then some (.aload_n 0, 1, 0, 0, 0, mj_u) else none) else
      (bif Nat.blt pc 12 then (bif Nat.beq pc 9 then some (.getfield 18, 3, 9, 2, 895, .null) else none) else
       (bif Nat.beq pc 12 then some (.iload_n 1, 1, 1, 0, 0, mj_u) else none))) else
     (bif Nat.blt pc 14 then (bif Nat.beq pc 13 then some (.iaload, 1, 0, 0, 0, mj_u) else none) else
      (bif Nat.blt pc 15 then (bif Nat.beq pc 14 then some (.iload_n 2, 1, 2, 0, 0, mj_u) else none) else
       (bif Nat.beq pc 15 then some (.iadd, 1, 0, 0, 0, mj_u) else none))))) else
   (bif Nat.blt pc 28 then (bif Nat.blt pc 21 then (bif Nat.blt pc 18 then (bif Nat.beq pc 16 then some (.istore 5, 2, 5, 0, 0, mj_u) else none) else
      (bif Nat.blt pc 19 then (bif Nat.beq pc 18 then some (.iconst 1, 1, 0, 0, 0, .int 1) else none) else
       (bif Nat.beq pc 19 then some (.istore 6, 2, 6, 0, 0, mj_u) else none))) else
     (bif Nat.blt pc 23 then (bif Nat.beq pc 21 then some (.iload 6, 2, 6, 0, 0, mj_u) else none) else
      (bif Nat.blt pc 25 then (bif Nat.beq pc 23 then some (.iload 4, 2, 4, 0, 0, mj_u) else none) else
       (bif Nat.beq pc 25 then some (.if_icmp .ge 48, 3, 73, 0, 0, mj_u) else none)))) else
    (bif Nat.blt pc 33 then (bif Nat.blt pc 29 then (bif Nat.beq pc 28 then some (.aload_n 0, 1, 0, 0, 0, mj_u) else none) else
      (bif Nat.blt pc 32 then (bif Nat.beq pc 29 then some (.getfield 18, 3, 9, 2, 895, .null) else none) else
       (bif Nat.beq pc 32 then some (.aload_n 0, 1, 0, 0, 0, mj_u) else none))) else
     (bif Nat.blt pc 34 then (bif Nat.beq pc 33 then some (.iload_n 1, 1, 1, 0, 0, mj_u) else none) else
      (bif Nat.blt pc 35 then (bif Nat.beq pc 34 then some (.iload_n 3, 1, 3, 0, 0, mj_u) else none) else
       (bif Nat.beq pc 35 then some (.iload 6, 2, 6, 0, 0, mj_u) else none)))))) else
  (bif Nat.blt pc 56 then (bif Nat.blt pc 46 then (bif Nat.blt pc 41 then (bif Nat.blt pc 40 then (bif Nat.beq pc 37 then some (.invokevirtual 114, 3, 132, 0, 1312, mj_u) else none) else
      (bif Nat.beq pc 40 then some (.iaload, 1, 0, 0, 0, mj_u) else none)) else
     (bif Nat.blt pc 43 then (bif Nat.beq pc 41 then some (.iload 4, 2, 4, 0, 0, mj_u) else none) else
      (bif Nat.blt pc 44 then (bif Nat.beq pc 43 then some (.imul, 1, 0, 0, 0, mj_u) else none) else
       (bif Nat.beq pc 44 then some (.iload 5, 2, 5, 0, 0, mj_u) else none)))) else
    (bif Nat.blt pc 51 then (bif Nat.blt pc 48 then (bif Nat.beq pc 46 then some (.iload 4, 2, 4, 0, 0, mj_u) else none) else
      (bif Nat.blt pc 50 then (bif Nat.beq pc 48 then some (.iload 6, 2, 6, 0, 0, mj_u) else none) else
       (bif Nat.beq pc 50 then some (.isub, 1, 0, 0, 0, mj_u) else none))) else
     (bif Nat.blt pc 52 then (bif Nat.beq pc 51 then some (.imul, 1, 0, 0, 0, mj_u) else none) else
      (bif Nat.blt pc 53 then (bif Nat.beq pc 52 then some (.aload_n 0, 1, 0, 0, 0, mj_u) else none) else
       (bif Nat.beq pc 53 then some (.getfield 18, 3, 9, 2, 895, .null) else none))))) else
   (bif Nat.blt pc 65 then (bif Nat.blt pc 60 then (bif Nat.blt pc 57 then (bif Nat.beq pc 56 then some (.iload_n 3, 1, 3, 0, 0, mj_u) else none) else
      (bif Nat.blt pc 58 then (bif Nat.beq pc 57 then some (.iaload, 1, 0, 0, 0, mj_u) else none) else
       (bif Nat.beq pc 58 then some (.iload 6, 2, 6, 0, 0, mj_u) else none))) else
     (bif Nat.blt pc 61 then (bif Nat.beq pc 60 then some (.imul, 1, 0, 0, 0, mj_u) else none) else
      (bif Nat.blt pc 62 then (bif Nat.beq pc 61 then some (.iadd, 1, 0, 0, 0, mj_u) else none) else
       (bif Nat.beq pc 62 then some (.if_icmp .le 5, 3, 67, 0, 0, mj_u) else none)))) else
    (bif Nat.blt pc 70 then (bif Nat.blt pc 66 then (bif Nat.beq pc 65 then some (.iconst 0, 1, 0, 0, 0, .int 0) else none) else
      (bif Nat.blt pc 67 then (bif Nat.beq pc 66 then some (.ireturn, 1, 0, 0, 0, mj_u) else none) else
       (bif Nat.beq pc 67 then some (.iinc 6 1, 3, 6, 0, 0, .int 1) else none))) else
     (bif Nat.blt pc 73 then (bif Nat.beq pc 70 then some (.goto (-49), 3, 21, 0, 0, mj_u) else none) else
      (bif Nat.blt pc 74 then (bif Nat.beq pc 73 then some (.iconst 1, 1, 0, 0, 0, .int 1) else none) else
       (bif Nat.beq pc 74 then some (.ireturn, 1, 0, 0, 0, mj_u) else none))))))
def m_ML_sees : mj_M := (179, prog_12_method_26_code, 7, (Option.some Jvm.ClassFile.FieldType.boolean), 9, 3, 1310, 1308, 1309, 56, 75, k_ML_sees)
/-- WatershedMapModel.seen(III)I -/
def k_M_seen : Nat → Option mj_I := fun pc =>
  bif Nat.blt pc 26 then (bif Nat.blt pc 11 then (bif Nat.blt pc 3 then (bif Nat.blt pc 1 then (bif Nat.beq pc 0 then some (.aload_n 0, 1, 0, 0, 0, mj_u) else none) else
     (bif Nat.blt pc 2 then (bif Nat.beq pc 1 then some (.iload_n 1, 1, 1, 0, 0, mj_u) else none) else
      (bif Nat.beq pc 2 then some (.iload_n 2, 1, 2, 0, 0, mj_u) else none))) else
    (bif Nat.blt pc 9 then (bif Nat.blt pc 6 then (bif Nat.beq pc 3 then some (.invokevirtual 63, 3, 119, 0, 937, mj_u) else none) else
      (bif Nat.beq pc 6 then some (.ifCond .ne 27, 3, 33, 0, 0, mj_u) else none)) else
     (bif Nat.blt pc 10 then (bif Nat.beq pc 9 then some (.aload_n 0, 1, 0, 0, 0, mj_u) else none) else
      (bif Nat.beq pc 10 then some (.iload_n 3, 1, 3, 0, 0, mj_u) else none)))) else
   (bif Nat.blt pc 18 then (bif Nat.blt pc 12 then (bif Nat.beq pc 11 then some (.iconst 0, 1, 0, 0, 0, .int 0) else none) else
     (bif Nat.blt pc 15 then (bif Nat.beq pc 12 then some (.sipush 500, 3, 0, 0, 0, .int 500) else none) else
      (bif Nat.beq pc 15 then some (.invokestatic 41, 3, 115, 0, 922, mj_u) else none))) else
    (bif Nat.blt pc 22 then (bif Nat.blt pc 21 then (bif Nat.beq pc 18 then some (.ifCond .ne 7, 3, 25, 0, 0, mj_u) else none) else
      (bif Nat.beq pc 21 then some (.iconst 1, 1, 0, 0, 0, .int 1) else none)) else
     (bif Nat.blt pc 25 then (bif Nat.beq pc 22 then some (.goto 4, 3, 26, 0, 0, mj_u) else none) else
      (bif Nat.beq pc 25 then some (.iconst 0, 1, 0, 0, 0, .int 0) else none))))) else
  (bif Nat.blt pc 41 then (bif Nat.blt pc 33 then (bif Nat.blt pc 27 then (bif Nat.beq pc 26 then some (.iconst 2, 1, 0, 0, 0, .int 2) else none) else
     (bif Nat.blt pc 30 then (bif Nat.beq pc 27 then some (.invokevirtual 34, 3, 117, 0, 929, mj_u) else none) else
      (bif Nat.beq pc 30 then some (.ifCond .eq 7, 3, 37, 0, 0, mj_u) else none))) else
    (bif Nat.blt pc 37 then (bif Nat.blt pc 34 then (bif Nat.beq pc 33 then some (.iconst 0, 1, 0, 0, 0, .int 0) else none) else
      (bif Nat.beq pc 34 then some (.goto 17, 3, 51, 0, 0, mj_u) else none)) else
     (bif Nat.blt pc 38 then (bif Nat.beq pc 37 then some (.aload_n 0, 1, 0, 0, 0, mj_u) else none) else
      (bif Nat.beq pc 38 then some (.getfield 23, 3, 10, 1, 905, .null) else none)))) else
   (bif Nat.blt pc 44 then (bif Nat.blt pc 42 then (bif Nat.beq pc 41 then some (.aload_n 0, 1, 0, 0, 0, mj_u) else none) else
     (bif Nat.blt pc 43 then (bif Nat.beq pc 42 then some (.iload_n 1, 1, 1, 0, 0, mj_u) else none) else
      (bif Nat.beq pc 43 then some (.iload_n 2, 1, 2, 0, 0, mj_u) else none))) else
    (bif Nat.blt pc 48 then (bif Nat.blt pc 47 then (bif Nat.beq pc 44 then some (.invokevirtual 66, 3, 121, 0, 945, mj_u) else none) else
      (bif Nat.beq pc 47 then some (.iload_n 3, 1, 3, 0, 0, mj_u) else none)) else
     (bif Nat.blt pc 51 then (bif Nat.beq pc 48 then some (.invokevirtual 168, 3, 181, 0, 1317, mj_u) else none) else
      (bif Nat.beq pc 51 then some (.ireturn, 1, 0, 0, 0, mj_u) else none)))))
def m_M_seen : mj_M := (180, prog_11_method_40_code, 4, (Option.some Jvm.ClassFile.FieldType.int), 10, 3, 1316, 1314, 1315, 55, 52, k_M_seen)
/-- WatershedMapModel$Land.seen(II)I -/
def k_ML_seen : Nat → Option mj_I := fun pc =>
  bif Nat.blt pc 18 then (bif Nat.blt pc 8 then (bif Nat.blt pc 3 then (bif Nat.blt pc 1 then (bif Nat.beq pc 0 then some (.iconst 0, 1, 0, 0, 0, .int 0) else none) else
     (bif Nat.blt pc 2 then (bif Nat.beq pc 1 then some (.istore_n 3, 1, 3, 0, 0, mj_u) else none) else
      (bif Nat.beq pc 2 then some (.iconst 0, 1, 0, 0, 0, .int 0) else none))) else
    (bif Nat.blt pc 5 then (bif Nat.beq pc 3 then some (.istore 4, 2, 4, 0, 0, mj_u) else none) else
     (bif Nat.blt pc 7 then (bif Nat.beq pc 5 then some (.iload 4, 2, 4, 0, 0, mj_u) else none) else
      (bif Nat.beq pc 7 then some (.aload_n 0, 1, 0, 0, 0, mj_u) else none)))) else
   (bif Nat.blt pc 15 then (bif Nat.blt pc 11 then (bif Nat.beq pc 8 then some (.invokevirtual 45, 3, 127, 0, 981, mj_u) else none) else
     (bif Nat.blt pc 14 then (bif Nat.beq pc 11 then some (.if_icmp .ge 28, 3, 39, 0, 0, mj_u) else none) else
      (bif Nat.beq pc 14 then some (.iload_n 3, 1, 3, 0, 0, mj_u) else none))) else
    (bif Nat.blt pc 16 then (bif Nat.beq pc 15 then some (.aload_n 0, 1, 0, 0, 0, mj_u) else none) else
     (bif Nat.blt pc 17 then (bif Nat.beq pc 16 then some (.iload_n 1, 1, 1, 0, 0, mj_u) else none) else
      (bif Nat.beq pc 17 then some (.iload_n 2, 1, 2, 0, 0, mj_u) else none))))) else
  (bif Nat.blt pc 31 then (bif Nat.blt pc 26 then (bif Nat.blt pc 20 then (bif Nat.beq pc 18 then some (.iload 4, 2, 4, 0, 0, mj_u) else none) else
     (bif Nat.blt pc 23 then (bif Nat.beq pc 20 then some (.invokevirtual 118, 3, 179, 0, 1321, mj_u) else none) else
      (bif Nat.beq pc 23 then some (.ifCond .eq 7, 3, 30, 0, 0, mj_u) else none))) else
    (bif Nat.blt pc 27 then (bif Nat.beq pc 26 then some (.iconst 1, 1, 0, 0, 0, .int 1) else none) else
     (bif Nat.blt pc 30 then (bif Nat.beq pc 27 then some (.goto 4, 3, 31, 0, 0, mj_u) else none) else
      (bif Nat.beq pc 30 then some (.iconst 0, 1, 0, 0, 0, .int 0) else none)))) else
   (bif Nat.blt pc 36 then (bif Nat.blt pc 32 then (bif Nat.beq pc 31 then some (.iadd, 1, 0, 0, 0, mj_u) else none) else
     (bif Nat.blt pc 33 then (bif Nat.beq pc 32 then some (.istore_n 3, 1, 3, 0, 0, mj_u) else none) else
      (bif Nat.beq pc 33 then some (.iinc 4 1, 3, 4, 0, 0, .int 1) else none))) else
    (bif Nat.blt pc 39 then (bif Nat.beq pc 36 then some (.goto (-31), 3, 5, 0, 0, mj_u) else none) else
     (bif Nat.blt pc 40 then (bif Nat.beq pc 39 then some (.iload_n 3, 1, 3, 0, 0, mj_u) else none) else
      (bif Nat.beq pc 40 then some (.ireturn, 1, 0, 0, 0, mj_u) else none)))))
def m_ML_seen : mj_M := (181, prog_12_method_27_code, 5, (Option.some Jvm.ClassFile.FieldType.int), 9, 2, 1320, 1318, 1319, 56, 41, k_ML_seen)
/-- WatershedMapModel.takes(IIII)I -/
def k_M_takes : Nat → Option mj_I := fun pc =>
  bif Nat.blt pc 29 then (bif Nat.blt pc 12 then (bif Nat.blt pc 4 then (bif Nat.blt pc 2 then (bif Nat.blt pc 1 then (bif Nat.beq pc 0 then some (.aload_n 0, 1, 0, 0, 0, mj_u) else none) else
      (bif Nat.beq pc 1 then some (.aload_n 0, 1, 0, 0, 0, mj_u) else none)) else
     (bif Nat.blt pc 3 then (bif Nat.beq pc 2 then some (.iload_n 1, 1, 1, 0, 0, mj_u) else none) else
      (bif Nat.beq pc 3 then some (.iload_n 2, 1, 2, 0, 0, mj_u) else none))) else
    (bif Nat.blt pc 10 then (bif Nat.blt pc 7 then (bif Nat.beq pc 4 then some (.invokevirtual 48, 3, 120, 0, 941, mj_u) else none) else
      (bif Nat.beq pc 7 then some (.ifCond .ne 13, 3, 20, 0, 0, mj_u) else none)) else
     (bif Nat.blt pc 11 then (bif Nat.beq pc 10 then some (.aload_n 0, 1, 0, 0, 0, mj_u) else none) else
      (bif Nat.beq pc 11 then some (.iload_n 3, 1, 3, 0, 0, mj_u) else none)))) else
   (bif Nat.blt pc 21 then (bif Nat.blt pc 17 then (bif Nat.blt pc 14 then (bif Nat.beq pc 12 then some (.iload 4, 2, 4, 0, 0, mj_u) else none) else
      (bif Nat.beq pc 14 then some (.invokevirtual 48, 3, 120, 0, 941, mj_u) else none)) else
     (bif Nat.blt pc 20 then (bif Nat.beq pc 17 then some (.ifCond .eq 7, 3, 24, 0, 0, mj_u) else none) else
      (bif Nat.beq pc 20 then some (.iconst 1, 1, 0, 0, 0, .int 1) else none))) else
    (bif Nat.blt pc 25 then (bif Nat.blt pc 24 then (bif Nat.beq pc 21 then some (.goto 4, 3, 25, 0, 0, mj_u) else none) else
      (bif Nat.beq pc 24 then some (.iconst 0, 1, 0, 0, 0, .int 0) else none)) else
     (bif Nat.blt pc 26 then (bif Nat.beq pc 25 then some (.iconst 1, 1, 0, 0, 0, .int 1) else none) else
      (bif Nat.beq pc 26 then some (.invokevirtual 52, 3, 116, 0, 925, mj_u) else none))))) else
  (bif Nat.blt pc 43 then (bif Nat.blt pc 37 then (bif Nat.blt pc 33 then (bif Nat.blt pc 32 then (bif Nat.beq pc 29 then some (.ifCond .eq 7, 3, 36, 0, 0, mj_u) else none) else
      (bif Nat.beq pc 32 then some (.iconst 0, 1, 0, 0, 0, .int 0) else none)) else
     (bif Nat.blt pc 36 then (bif Nat.beq pc 33 then some (.goto 24, 3, 57, 0, 0, mj_u) else none) else
      (bif Nat.beq pc 36 then some (.aload_n 0, 1, 0, 0, 0, mj_u) else none))) else
    (bif Nat.blt pc 41 then (bif Nat.blt pc 40 then (bif Nat.beq pc 37 then some (.getfield 23, 3, 10, 1, 905, .null) else none) else
      (bif Nat.beq pc 40 then some (.aload_n 0, 1, 0, 0, 0, mj_u) else none)) else
     (bif Nat.blt pc 42 then (bif Nat.beq pc 41 then some (.iload_n 1, 1, 1, 0, 0, mj_u) else none) else
      (bif Nat.beq pc 42 then some (.iload_n 2, 1, 2, 0, 0, mj_u) else none)))) else
   (bif Nat.blt pc 51 then (bif Nat.blt pc 49 then (bif Nat.blt pc 46 then (bif Nat.beq pc 43 then some (.invokevirtual 66, 3, 121, 0, 945, mj_u) else none) else
      (bif Nat.beq pc 46 then some (.invokevirtual 171, 3, 183, 0, 1326, mj_u) else none)) else
     (bif Nat.blt pc 50 then (bif Nat.beq pc 49 then some (.aload_n 0, 1, 0, 0, 0, mj_u) else none) else
      (bif Nat.beq pc 50 then some (.iload_n 3, 1, 3, 0, 0, mj_u) else none))) else
    (bif Nat.blt pc 56 then (bif Nat.blt pc 53 then (bif Nat.beq pc 51 then some (.iload 4, 2, 4, 0, 0, mj_u) else none) else
      (bif Nat.beq pc 53 then some (.invokevirtual 66, 3, 121, 0, 945, mj_u) else none)) else
     (bif Nat.blt pc 57 then (bif Nat.beq pc 56 then some (.iaload, 1, 0, 0, 0, mj_u) else none) else
      (bif Nat.beq pc 57 then some (.ireturn, 1, 0, 0, 0, mj_u) else none)))))
def m_M_takes : mj_M := (182, prog_11_method_41_code, 5, (Option.some Jvm.ClassFile.FieldType.int), 10, 4, 1325, 1323, 1324, 55, 58, k_M_takes)
/-- WatershedMapModel$Land.takes(I)[I -/
def k_ML_takes : Nat → Option mj_I := fun pc =>
  bif Nat.blt pc 90 then (bif Nat.blt pc 42 then (bif Nat.blt pc 19 then (bif Nat.blt pc 8 then (bif Nat.blt pc 4 then (bif Nat.blt pc 1 then (bif Nat.beq pc 0 then some (.aload_n 0, 1, 0, 0, 0, mj_u) else none) else
       (bif Nat.beq pc 1 then some (.invokevirtual 45, 3, 127, 0, 981, mj_u) else none)) else
      (bif Nat.blt pc 6 then (bif Nat.beq pc 4 then some (.newarray .int, 2, 0, 0, 0, mj_u) else none) else
       (bif Nat.blt pc 7 then (bif Nat.beq pc 6 then some (.astore_n 2, 1, 2, 0, 0, mj_u) else none) else
        (bif Nat.beq pc 7 then some (.aload_n 0, 1, 0, 0, 0, mj_u) else none)))) else
     (bif Nat.blt pc 14 then (bif Nat.blt pc 11 then (bif Nat.beq pc 8 then some (.invokevirtual 45, 3, 127, 0, 981, mj_u) else none) else
       (bif Nat.blt pc 13 then (bif Nat.beq pc 11 then some (.newarray .boolean, 2, 0, 0, 0, mj_u) else none) else
        (bif Nat.beq pc 13 then some (.astore_n 3, 1, 3, 0, 0, mj_u) else none))) else
      (bif Nat.blt pc 15 then (bif Nat.beq pc 14 then some (.iconst 0, 1, 0, 0, 0, .int 0) else none) else
       (bif Nat.blt pc 17 then (bif Nat.beq pc 15 then some (.istore 4, 2, 4, 0, 0, mj_u) else none) else
        (bif Nat.beq pc 17 then some (.iload 4, 2, 4, 0, 0, mj_u) else none))))) else
    (bif Nat.blt pc 31 then (bif Nat.blt pc 26 then (bif Nat.blt pc 20 then (bif Nat.beq pc 19 then some (.aload_n 0, 1, 0, 0, 0, mj_u) else none) else
       (bif Nat.blt pc 23 then (bif Nat.beq pc 20 then some (.invokevirtual 45, 3, 127, 0, 981, mj_u) else none) else
        (bif Nat.beq pc 23 then some (.if_icmp .ge 25, 3, 48, 0, 0, mj_u) else none))) else
      (bif Nat.blt pc 27 then (bif Nat.beq pc 26 then some (.aload_n 2, 1, 2, 0, 0, mj_u) else none) else
       (bif Nat.blt pc 29 then (bif Nat.beq pc 27 then some (.iload 4, 2, 4, 0, 0, mj_u) else none) else
        (bif Nat.beq pc 29 then some (.iload 4, 2, 4, 0, 0, mj_u) else none)))) else
     (bif Nat.blt pc 36 then (bif Nat.blt pc 32 then (bif Nat.beq pc 31 then some (.iload_n 1, 1, 1, 0, 0, mj_u) else none) else
       (bif Nat.blt pc 35 then (bif Nat.beq pc 32 then some (.if_icmp .ne 7, 3, 39, 0, 0, mj_u) else none) else
        (bif Nat.beq pc 35 then some (.iconst 0, 1, 0, 0, 0, .int 0) else none))) else
      (bif Nat.blt pc 39 then (bif Nat.beq pc 36 then some (.goto 5, 3, 41, 0, 0, mj_u) else none) else
       (bif Nat.blt pc 41 then (bif Nat.beq pc 39 then some (.ldc 122, 2, 0, 0, 1330, .int 2147483647) else none) else
        (bif Nat.beq pc 41 then some (.iastore, 1, 0, 0, 0, mj_u) else none)))))) else
   (bif Nat.blt pc 66 then (bif Nat.blt pc 54 then (bif Nat.blt pc 49 then (bif Nat.blt pc 45 then (bif Nat.beq pc 42 then some (.iinc 4 1, 3, 4, 0, 0, .int 1) else none) else
       (bif Nat.blt pc 48 then (bif Nat.beq pc 45 then some (.goto (-28), 3, 17, 0, 0, mj_u) else none) else
        (bif Nat.beq pc 48 then some (.iconst 0, 1, 0, 0, 0, .int 0) else none))) else
      (bif Nat.blt pc 51 then (bif Nat.beq pc 49 then some (.istore 4, 2, 4, 0, 0, mj_u) else none) else
       (bif Nat.blt pc 53 then (bif Nat.beq pc 51 then some (.iload 4, 2, 4, 0, 0, mj_u) else none) else
        (bif Nat.beq pc 53 then some (.aload_n 0, 1, 0, 0, 0, mj_u) else none)))) else
     (bif Nat.blt pc 61 then (bif Nat.blt pc 57 then (bif Nat.beq pc 54 then some (.invokevirtual 45, 3, 127, 0, 981, mj_u) else none) else
       (bif Nat.blt pc 60 then (bif Nat.beq pc 57 then some (.if_icmp .ge 119, 3, 176, 0, 0, mj_u) else none) else
        (bif Nat.beq pc 60 then some (.iconst (-1), 1, 0, 0, 0, .int (-1)) else none))) else
      (bif Nat.blt pc 63 then (bif Nat.beq pc 61 then some (.istore 5, 2, 5, 0, 0, mj_u) else none) else
       (bif Nat.blt pc 64 then (bif Nat.beq pc 63 then some (.iconst 0, 1, 0, 0, 0, .int 0) else none) else
        (bif Nat.beq pc 64 then some (.istore 6, 2, 6, 0, 0, mj_u) else none))))) else
    (bif Nat.blt pc 78 then (bif Nat.blt pc 72 then (bif Nat.blt pc 68 then (bif Nat.beq pc 66 then some (.iload 6, 2, 6, 0, 0, mj_u) else none) else
       (bif Nat.blt pc 69 then (bif Nat.beq pc 68 then some (.aload_n 0, 1, 0, 0, 0, mj_u) else none) else
        (bif Nat.beq pc 69 then some (.invokevirtual 45, 3, 127, 0, 981, mj_u) else none))) else
      (bif Nat.blt pc 75 then (bif Nat.beq pc 72 then some (.if_icmp .ge 36, 3, 108, 0, 0, mj_u) else none) else
       (bif Nat.blt pc 76 then (bif Nat.beq pc 75 then some (.aload_n 3, 1, 3, 0, 0, mj_u) else none) else
        (bif Nat.beq pc 76 then some (.iload 6, 2, 6, 0, 0, mj_u) else none)))) else
     (bif Nat.blt pc 84 then (bif Nat.blt pc 79 then (bif Nat.beq pc 78 then some (.baload, 1, 0, 0, 0, mj_u) else none) else
       (bif Nat.blt pc 82 then (bif Nat.beq pc 79 then some (.ifCond .ne 23, 3, 102, 0, 0, mj_u) else none) else
        (bif Nat.beq pc 82 then some (.iload 5, 2, 5, 0, 0, mj_u) else none))) else
      (bif Nat.blt pc 87 then (bif Nat.beq pc 84 then some (.ifCond .lt 14, 3, 98, 0, 0, mj_u) else none) else
       (bif Nat.blt pc 88 then (bif Nat.beq pc 87 then some (.aload_n 2, 1, 2, 0, 0, mj_u) else none) else
        (bif Nat.beq pc 88 then some (.iload 6, 2, 6, 0, 0, mj_u) else none))))))) else
  (bif Nat.blt pc 133 then (bif Nat.blt pc 111 then (bif Nat.blt pc 98 then (bif Nat.blt pc 92 then (bif Nat.blt pc 91 then (bif Nat.beq pc 90 then some (.iaload, 1, 0, 0, 0, mj_u) else none) else
       (bif Nat.beq pc 91 then some (.aload_n 2, 1, 2, 0, 0, mj_u) else none)) else
      (bif Nat.blt pc 94 then (bif Nat.beq pc 92 then some (.iload 5, 2, 5, 0, 0, mj_u) else none) else
       (bif Nat.blt pc 95 then (bif Nat.beq pc 94 then some (.iaload, 1, 0, 0, 0, mj_u) else none) else
        (bif Nat.beq pc 95 then some (.if_icmp .ge 7, 3, 102, 0, 0, mj_u) else none)))) else
     (bif Nat.blt pc 105 then (bif Nat.blt pc 100 then (bif Nat.beq pc 98 then some (.iload 6, 2, 6, 0, 0, mj_u) else none) else
       (bif Nat.blt pc 102 then (bif Nat.beq pc 100 then some (.istore 5, 2, 5, 0, 0, mj_u) else none) else
        (bif Nat.beq pc 102 then some (.iinc 6 1, 3, 6, 0, 0, .int 1) else none))) else
      (bif Nat.blt pc 108 then (bif Nat.beq pc 105 then some (.goto (-39), 3, 66, 0, 0, mj_u) else none) else
       (bif Nat.blt pc 109 then (bif Nat.beq pc 108 then some (.aload_n 3, 1, 3, 0, 0, mj_u) else none) else
        (bif Nat.beq pc 109 then some (.iload 5, 2, 5, 0, 0, mj_u) else none))))) else
    (bif Nat.blt pc 120 then (bif Nat.blt pc 114 then (bif Nat.blt pc 112 then (bif Nat.beq pc 111 then some (.iconst 1, 1, 0, 0, 0, .int 1) else none) else
       (bif Nat.blt pc 113 then (bif Nat.beq pc 112 then some (.bastore, 1, 0, 0, 0, mj_u) else none) else
        (bif Nat.beq pc 113 then some (.iconst 0, 1, 0, 0, 0, .int 0) else none))) else
      (bif Nat.blt pc 116 then (bif Nat.beq pc 114 then some (.istore 6, 2, 6, 0, 0, mj_u) else none) else
       (bif Nat.blt pc 118 then (bif Nat.beq pc 116 then some (.iload 6, 2, 6, 0, 0, mj_u) else none) else
        (bif Nat.beq pc 118 then some (.bipush 8, 2, 0, 0, 0, .int 8) else none)))) else
     (bif Nat.blt pc 126 then (bif Nat.blt pc 123 then (bif Nat.beq pc 120 then some (.if_icmp .ge 50, 3, 170, 0, 0, mj_u) else none) else
       (bif Nat.blt pc 124 then (bif Nat.beq pc 123 then some (.aload_n 0, 1, 0, 0, 0, mj_u) else none) else
        (bif Nat.beq pc 124 then some (.iload 5, 2, 5, 0, 0, mj_u) else none))) else
      (bif Nat.blt pc 128 then (bif Nat.beq pc 126 then some (.iload 6, 2, 6, 0, 0, mj_u) else none) else
       (bif Nat.blt pc 131 then (bif Nat.beq pc 128 then some (.invokevirtual 53, 3, 134, 0, 1037, mj_u) else none) else
        (bif Nat.beq pc 131 then some (.istore 7, 2, 7, 0, 0, mj_u) else none)))))) else
   (bif Nat.blt pc 152 then (bif Nat.blt pc 144 then (bif Nat.blt pc 139 then (bif Nat.blt pc 135 then (bif Nat.beq pc 133 then some (.iload 7, 2, 7, 0, 0, mj_u) else none) else
       (bif Nat.blt pc 138 then (bif Nat.beq pc 135 then some (.ifCond .lt 29, 3, 164, 0, 0, mj_u) else none) else
        (bif Nat.beq pc 138 then some (.aload_n 2, 1, 2, 0, 0, mj_u) else none))) else
      (bif Nat.blt pc 141 then (bif Nat.beq pc 139 then some (.iload 7, 2, 7, 0, 0, mj_u) else none) else
       (bif Nat.blt pc 142 then (bif Nat.beq pc 141 then some (.aload_n 2, 1, 2, 0, 0, mj_u) else none) else
        (bif Nat.beq pc 142 then some (.iload 7, 2, 7, 0, 0, mj_u) else none)))) else
     (bif Nat.blt pc 148 then (bif Nat.blt pc 145 then (bif Nat.beq pc 144 then some (.iaload, 1, 0, 0, 0, mj_u) else none) else
       (bif Nat.blt pc 146 then (bif Nat.beq pc 145 then some (.aload_n 2, 1, 2, 0, 0, mj_u) else none) else
        (bif Nat.beq pc 146 then some (.iload 5, 2, 5, 0, 0, mj_u) else none))) else
      (bif Nat.blt pc 149 then (bif Nat.beq pc 148 then some (.iaload, 1, 0, 0, 0, mj_u) else none) else
       (bif Nat.blt pc 150 then (bif Nat.beq pc 149 then some (.aload_n 0, 1, 0, 0, 0, mj_u) else none) else
        (bif Nat.beq pc 150 then some (.iload 5, 2, 5, 0, 0, mj_u) else none))))) else
    (bif Nat.blt pc 164 then (bif Nat.blt pc 159 then (bif Nat.blt pc 154 then (bif Nat.beq pc 152 then some (.iload 6, 2, 6, 0, 0, mj_u) else none) else
       (bif Nat.blt pc 156 then (bif Nat.beq pc 154 then some (.iload 7, 2, 7, 0, 0, mj_u) else none) else
        (bif Nat.beq pc 156 then some (.invokevirtual 123, 3, 184, 0, 1331, mj_u) else none))) else
      (bif Nat.blt pc 160 then (bif Nat.beq pc 159 then some (.iadd, 1, 0, 0, 0, mj_u) else none) else
       (bif Nat.blt pc 163 then (bif Nat.beq pc 160 then some (.invokestatic 36, 3, 59, 0, 1054, mj_u) else none) else
        (bif Nat.beq pc 163 then some (.iastore, 1, 0, 0, 0, mj_u) else none)))) else
     (bif Nat.blt pc 173 then (bif Nat.blt pc 167 then (bif Nat.beq pc 164 then some (.iinc 6 1, 3, 6, 0, 0, .int 1) else none) else
       (bif Nat.blt pc 170 then (bif Nat.beq pc 167 then some (.goto (-51), 3, 116, 0, 0, mj_u) else none) else
        (bif Nat.beq pc 170 then some (.iinc 4 1, 3, 4, 0, 0, .int 1) else none))) else
      (bif Nat.blt pc 176 then (bif Nat.beq pc 173 then some (.goto (-122), 3, 51, 0, 0, mj_u) else none) else
       (bif Nat.blt pc 177 then (bif Nat.beq pc 176 then some (.aload_n 2, 1, 2, 0, 0, mj_u) else none) else
        (bif Nat.beq pc 177 then some (.areturn, 1, 0, 0, 0, mj_u) else none)))))))
def m_ML_takes : mj_M := (183, prog_12_method_29_code, 8, (Option.some (Jvm.ClassFile.FieldType.array Jvm.ClassFile.FieldType.int)), 9, 1, 1329, 1327, 1328, 56, 178, k_ML_takes)
/-- WatershedMapModel$Land.step(III)I -/
def k_ML_step : Nat → Option mj_I := fun pc =>
  bif Nat.blt pc 17 then (bif Nat.blt pc 6 then (bif Nat.blt pc 2 then (bif Nat.blt pc 1 then (bif Nat.beq pc 0 then some (.iload_n 2, 1, 2, 0, 0, mj_u) else none) else
     (bif Nat.beq pc 1 then some (.iconst 2, 1, 0, 0, 0, .int 2) else none)) else
    (bif Nat.blt pc 3 then (bif Nat.beq pc 2 then some (.irem, 1, 0, 0, 0, mj_u) else none) else
     (bif Nat.beq pc 3 then some (.ifCond .ne 8, 3, 11, 0, 0, mj_u) else none))) else
   (bif Nat.blt pc 11 then (bif Nat.blt pc 8 then (bif Nat.beq pc 6 then some (.bipush 10, 2, 0, 0, 0, .int 10) else none) else
     (bif Nat.beq pc 8 then some (.goto 5, 3, 13, 0, 0, mj_u) else none)) else
    (bif Nat.blt pc 13 then (bif Nat.beq pc 11 then some (.bipush 14, 2, 0, 0, 0, .int 14) else none) else
     (bif Nat.blt pc 14 then (bif Nat.beq pc 13 then some (.aload_n 0, 1, 0, 0, 0, mj_u) else none) else
      (bif Nat.beq pc 14 then some (.getfield 18, 3, 9, 2, 895, .null) else none))))) else
  (bif Nat.blt pc 24 then (bif Nat.blt pc 19 then (bif Nat.blt pc 18 then (bif Nat.beq pc 17 then some (.iload_n 1, 1, 1, 0, 0, mj_u) else none) else
     (bif Nat.beq pc 18 then some (.iaload, 1, 0, 0, 0, mj_u) else none)) else
    (bif Nat.blt pc 20 then (bif Nat.beq pc 19 then some (.aload_n 0, 1, 0, 0, 0, mj_u) else none) else
     (bif Nat.blt pc 23 then (bif Nat.beq pc 20 then some (.getfield 18, 3, 9, 2, 895, .null) else none) else
      (bif Nat.beq pc 23 then some (.iload_n 3, 1, 3, 0, 0, mj_u) else none)))) else
   (bif Nat.blt pc 26 then (bif Nat.blt pc 25 then (bif Nat.beq pc 24 then some (.iaload, 1, 0, 0, 0, mj_u) else none) else
     (bif Nat.beq pc 25 then some (.isub, 1, 0, 0, 0, mj_u) else none)) else
    (bif Nat.blt pc 29 then (bif Nat.beq pc 26 then some (.invokestatic 105, 3, 54, 0, 1002, mj_u) else none) else
     (bif Nat.blt pc 30 then (bif Nat.beq pc 29 then some (.iadd, 1, 0, 0, 0, mj_u) else none) else
      (bif Nat.beq pc 30 then some (.ireturn, 1, 0, 0, 0, mj_u) else none)))))
def m_ML_step : mj_M := (184, prog_12_method_28_code, 4, (Option.some Jvm.ClassFile.FieldType.int), 9, 3, 1334, 1333, 43, 56, 31, k_ML_step)
/-- WatershedMapModel.way(IIIII)I -/
def k_M_way : Nat → Option mj_I := fun pc =>
  bif Nat.blt pc 42 then (bif Nat.blt pc 20 then (bif Nat.blt pc 7 then (bif Nat.blt pc 2 then (bif Nat.blt pc 1 then (bif Nat.beq pc 0 then some (.aload_n 0, 1, 0, 0, 0, mj_u) else none) else
      (bif Nat.beq pc 1 then some (.aload_n 0, 1, 0, 0, 0, mj_u) else none)) else
     (bif Nat.blt pc 3 then (bif Nat.beq pc 2 then some (.iload_n 1, 1, 1, 0, 0, mj_u) else none) else
      (bif Nat.blt pc 4 then (bif Nat.beq pc 3 then some (.iload_n 2, 1, 2, 0, 0, mj_u) else none) else
       (bif Nat.beq pc 4 then some (.invokevirtual 48, 3, 120, 0, 941, mj_u) else none)))) else
    (bif Nat.blt pc 12 then (bif Nat.blt pc 10 then (bif Nat.beq pc 7 then some (.ifCond .ne 13, 3, 20, 0, 0, mj_u) else none) else
      (bif Nat.blt pc 11 then (bif Nat.beq pc 10 then some (.aload_n 0, 1, 0, 0, 0, mj_u) else none) else
       (bif Nat.beq pc 11 then some (.iload_n 3, 1, 3, 0, 0, mj_u) else none))) else
     (bif Nat.blt pc 14 then (bif Nat.beq pc 12 then some (.iload 4, 2, 4, 0, 0, mj_u) else none) else
      (bif Nat.blt pc 17 then (bif Nat.beq pc 14 then some (.invokevirtual 48, 3, 120, 0, 941, mj_u) else none) else
       (bif Nat.beq pc 17 then some (.ifCond .eq 7, 3, 24, 0, 0, mj_u) else none))))) else
   (bif Nat.blt pc 29 then (bif Nat.blt pc 24 then (bif Nat.blt pc 21 then (bif Nat.beq pc 20 then some (.iconst 1, 1, 0, 0, 0, .int 1) else none) else
      (bif Nat.beq pc 21 then some (.goto 4, 3, 25, 0, 0, mj_u) else none)) else
     (bif Nat.blt pc 25 then (bif Nat.beq pc 24 then some (.iconst 0, 1, 0, 0, 0, .int 0) else none) else
      (bif Nat.blt pc 26 then (bif Nat.beq pc 25 then some (.iconst 1, 1, 0, 0, 0, .int 1) else none) else
       (bif Nat.beq pc 26 then some (.invokevirtual 52, 3, 116, 0, 925, mj_u) else none)))) else
    (bif Nat.blt pc 35 then (bif Nat.blt pc 32 then (bif Nat.beq pc 29 then some (.ifCond .ne 21, 3, 50, 0, 0, mj_u) else none) else
      (bif Nat.blt pc 33 then (bif Nat.beq pc 32 then some (.aload_n 0, 1, 0, 0, 0, mj_u) else none) else
       (bif Nat.beq pc 33 then some (.iload 5, 2, 5, 0, 0, mj_u) else none))) else
     (bif Nat.blt pc 38 then (bif Nat.beq pc 35 then some (.ifCond .ge 7, 3, 42, 0, 0, mj_u) else none) else
      (bif Nat.blt pc 39 then (bif Nat.beq pc 38 then some (.iconst 1, 1, 0, 0, 0, .int 1) else none) else
       (bif Nat.beq pc 39 then some (.goto 4, 3, 43, 0, 0, mj_u) else none)))))) else
  (bif Nat.blt pc 61 then (bif Nat.blt pc 51 then (bif Nat.blt pc 44 then (bif Nat.blt pc 43 then (bif Nat.beq pc 42 then some (.iconst 0, 1, 0, 0, 0, .int 0) else none) else
      (bif Nat.beq pc 43 then some (.iconst 2, 1, 0, 0, 0, .int 2) else none)) else
     (bif Nat.blt pc 47 then (bif Nat.beq pc 44 then some (.invokevirtual 34, 3, 117, 0, 929, mj_u) else none) else
      (bif Nat.blt pc 50 then (bif Nat.beq pc 47 then some (.ifCond .eq 7, 3, 54, 0, 0, mj_u) else none) else
       (bif Nat.beq pc 50 then some (.iconst 0, 1, 0, 0, 0, .int 0) else none)))) else
    (bif Nat.blt pc 58 then (bif Nat.blt pc 54 then (bif Nat.beq pc 51 then some (.goto 35, 3, 86, 0, 0, mj_u) else none) else
      (bif Nat.blt pc 55 then (bif Nat.beq pc 54 then some (.aload_n 0, 1, 0, 0, 0, mj_u) else none) else
       (bif Nat.beq pc 55 then some (.getfield 23, 3, 10, 1, 905, .null) else none))) else
     (bif Nat.blt pc 59 then (bif Nat.beq pc 58 then some (.aload_n 0, 1, 0, 0, 0, mj_u) else none) else
      (bif Nat.blt pc 60 then (bif Nat.beq pc 59 then some (.iload_n 1, 1, 1, 0, 0, mj_u) else none) else
       (bif Nat.beq pc 60 then some (.iload_n 2, 1, 2, 0, 0, mj_u) else none))))) else
   (bif Nat.blt pc 73 then (bif Nat.blt pc 66 then (bif Nat.blt pc 64 then (bif Nat.beq pc 61 then some (.invokevirtual 66, 3, 121, 0, 945, mj_u) else none) else
      (bif Nat.blt pc 65 then (bif Nat.beq pc 64 then some (.aload_n 0, 1, 0, 0, 0, mj_u) else none) else
       (bif Nat.beq pc 65 then some (.iload_n 3, 1, 3, 0, 0, mj_u) else none))) else
     (bif Nat.blt pc 68 then (bif Nat.beq pc 66 then some (.iload 4, 2, 4, 0, 0, mj_u) else none) else
      (bif Nat.blt pc 71 then (bif Nat.beq pc 68 then some (.invokevirtual 66, 3, 121, 0, 945, mj_u) else none) else
       (bif Nat.beq pc 71 then some (.iload 5, 2, 5, 0, 0, mj_u) else none)))) else
    (bif Nat.blt pc 80 then (bif Nat.blt pc 74 then (bif Nat.beq pc 73 then some (.aload_n 0, 1, 0, 0, 0, mj_u) else none) else
      (bif Nat.blt pc 77 then (bif Nat.beq pc 74 then some (.getfield 23, 3, 10, 1, 905, .null) else none) else
       (bif Nat.beq pc 77 then some (.invokevirtual 96, 3, 127, 0, 1012, mj_u) else none))) else
     (bif Nat.blt pc 83 then (bif Nat.beq pc 80 then some (.invokestatic 3, 3, 59, 0, 971, mj_u) else none) else
      (bif Nat.blt pc 86 then (bif Nat.beq pc 83 then some (.invokevirtual 174, 3, 186, 0, 1339, mj_u) else none) else
       (bif Nat.beq pc 86 then some (.ireturn, 1, 0, 0, 0, mj_u) else none))))))
def m_M_way : mj_M := (185, prog_11_method_42_code, 6, (Option.some Jvm.ClassFile.FieldType.int), 10, 5, 1338, 1336, 1337, 55, 87, k_M_way)
/-- WatershedMapModel$Land.way(III)I -/
def k_ML_way : Nat → Option mj_I := fun pc =>
  bif Nat.blt pc 52 then (bif Nat.blt pc 25 then (bif Nat.blt pc 11 then (bif Nat.blt pc 5 then (bif Nat.blt pc 1 then (bif Nat.beq pc 0 then some (.aload_n 0, 1, 0, 0, 0, mj_u) else none) else
      (bif Nat.blt pc 2 then (bif Nat.beq pc 1 then some (.iload_n 1, 1, 1, 0, 0, mj_u) else none) else
       (bif Nat.beq pc 2 then some (.invokevirtual 126, 3, 183, 0, 1343, mj_u) else none))) else
     (bif Nat.blt pc 8 then (bif Nat.blt pc 7 then (bif Nat.beq pc 5 then some (.astore 4, 2, 4, 0, 0, mj_u) else none) else
       (bif Nat.beq pc 7 then some (.iload_n 2, 1, 2, 0, 0, mj_u) else none)) else
      (bif Nat.blt pc 10 then (bif Nat.beq pc 8 then some (.istore 5, 2, 5, 0, 0, mj_u) else none) else
       (bif Nat.beq pc 10 then some (.iconst 0, 1, 0, 0, 0, .int 0) else none)))) else
    (bif Nat.blt pc 16 then (bif Nat.blt pc 13 then (bif Nat.beq pc 11 then some (.istore 6, 2, 6, 0, 0, mj_u) else none) else
      (bif Nat.blt pc 15 then (bif Nat.beq pc 13 then some (.iload 6, 2, 6, 0, 0, mj_u) else none) else
       (bif Nat.beq pc 15 then some (.iload_n 3, 1, 3, 0, 0, mj_u) else none))) else
     (bif Nat.blt pc 21 then (bif Nat.blt pc 19 then (bif Nat.beq pc 16 then some (.if_icmp .ge 95, 3, 111, 0, 0, mj_u) else none) else
       (bif Nat.beq pc 19 then some (.iload 5, 2, 5, 0, 0, mj_u) else none)) else
      (bif Nat.blt pc 22 then (bif Nat.beq pc 21 then some (.iload_n 1, 1, 1, 0, 0, mj_u) else none) else
       (bif Nat.beq pc 22 then some (.if_icmp .ne 5, 3, 27, 0, 0, mj_u) else none))))) else
   (bif Nat.blt pc 35 then (bif Nat.blt pc 28 then (bif Nat.blt pc 26 then (bif Nat.beq pc 25 then some (.iconst (-1), 1, 0, 0, 0, .int (-1)) else none) else
      (bif Nat.blt pc 27 then (bif Nat.beq pc 26 then some (.ireturn, 1, 0, 0, 0, mj_u) else none) else
       (bif Nat.beq pc 27 then some (.iconst (-1), 1, 0, 0, 0, .int (-1)) else none))) else
     (bif Nat.blt pc 31 then (bif Nat.blt pc 30 then (bif Nat.beq pc 28 then some (.istore 7, 2, 7, 0, 0, mj_u) else none) else
       (bif Nat.beq pc 30 then some (.iconst 0, 1, 0, 0, 0, .int 0) else none)) else
      (bif Nat.blt pc 33 then (bif Nat.beq pc 31 then some (.istore 8, 2, 8, 0, 0, mj_u) else none) else
       (bif Nat.beq pc 33 then some (.iload 8, 2, 8, 0, 0, mj_u) else none)))) else
    (bif Nat.blt pc 43 then (bif Nat.blt pc 40 then (bif Nat.blt pc 37 then (bif Nat.beq pc 35 then some (.bipush 8, 2, 0, 0, 0, .int 8) else none) else
       (bif Nat.beq pc 37 then some (.if_icmp .ge 64, 3, 101, 0, 0, mj_u) else none)) else
      (bif Nat.blt pc 41 then (bif Nat.beq pc 40 then some (.aload_n 0, 1, 0, 0, 0, mj_u) else none) else
       (bif Nat.beq pc 41 then some (.iload 5, 2, 5, 0, 0, mj_u) else none))) else
     (bif Nat.blt pc 48 then (bif Nat.blt pc 45 then (bif Nat.beq pc 43 then some (.iload 8, 2, 8, 0, 0, mj_u) else none) else
       (bif Nat.beq pc 45 then some (.invokevirtual 53, 3, 134, 0, 1037, mj_u) else none)) else
      (bif Nat.blt pc 50 then (bif Nat.beq pc 48 then some (.istore 9, 2, 9, 0, 0, mj_u) else none) else
       (bif Nat.beq pc 50 then some (.iload 9, 2, 9, 0, 0, mj_u) else none)))))) else
  (bif Nat.blt pc 79 then (bif Nat.blt pc 65 then (bif Nat.blt pc 59 then (bif Nat.blt pc 55 then (bif Nat.beq pc 52 then some (.ifCond .lt 43, 3, 95, 0, 0, mj_u) else none) else
      (bif Nat.blt pc 57 then (bif Nat.beq pc 55 then some (.aload 4, 2, 4, 0, 0, mj_u) else none) else
       (bif Nat.beq pc 57 then some (.iload 9, 2, 9, 0, 0, mj_u) else none))) else
     (bif Nat.blt pc 61 then (bif Nat.blt pc 60 then (bif Nat.beq pc 59 then some (.iaload, 1, 0, 0, 0, mj_u) else none) else
       (bif Nat.beq pc 60 then some (.aload_n 0, 1, 0, 0, 0, mj_u) else none)) else
      (bif Nat.blt pc 63 then (bif Nat.beq pc 61 then some (.iload 9, 2, 9, 0, 0, mj_u) else none) else
       (bif Nat.beq pc 63 then some (.iload 8, 2, 8, 0, 0, mj_u) else none)))) else
    (bif Nat.blt pc 71 then (bif Nat.blt pc 67 then (bif Nat.beq pc 65 then some (.iload 5, 2, 5, 0, 0, mj_u) else none) else
      (bif Nat.blt pc 70 then (bif Nat.beq pc 67 then some (.invokevirtual 123, 3, 184, 0, 1331, mj_u) else none) else
       (bif Nat.beq pc 70 then some (.iadd, 1, 0, 0, 0, mj_u) else none))) else
     (bif Nat.blt pc 75 then (bif Nat.blt pc 73 then (bif Nat.beq pc 71 then some (.aload 4, 2, 4, 0, 0, mj_u) else none) else
       (bif Nat.beq pc 73 then some (.iload 5, 2, 5, 0, 0, mj_u) else none)) else
      (bif Nat.blt pc 76 then (bif Nat.beq pc 75 then some (.iaload, 1, 0, 0, 0, mj_u) else none) else
       (bif Nat.beq pc 76 then some (.if_icmp .ne 19, 3, 95, 0, 0, mj_u) else none))))) else
   (bif Nat.blt pc 95 then (bif Nat.blt pc 86 then (bif Nat.blt pc 81 then (bif Nat.beq pc 79 then some (.iload 7, 2, 7, 0, 0, mj_u) else none) else
      (bif Nat.blt pc 84 then (bif Nat.beq pc 81 then some (.ifCond .lt 10, 3, 91, 0, 0, mj_u) else none) else
       (bif Nat.beq pc 84 then some (.iload 9, 2, 9, 0, 0, mj_u) else none))) else
     (bif Nat.blt pc 91 then (bif Nat.blt pc 88 then (bif Nat.beq pc 86 then some (.iload 7, 2, 7, 0, 0, mj_u) else none) else
       (bif Nat.beq pc 88 then some (.if_icmp .ge 7, 3, 95, 0, 0, mj_u) else none)) else
      (bif Nat.blt pc 93 then (bif Nat.beq pc 91 then some (.iload 9, 2, 9, 0, 0, mj_u) else none) else
       (bif Nat.beq pc 93 then some (.istore 7, 2, 7, 0, 0, mj_u) else none)))) else
    (bif Nat.blt pc 105 then (bif Nat.blt pc 101 then (bif Nat.blt pc 98 then (bif Nat.beq pc 95 then some (.iinc 8 1, 3, 8, 0, 0, .int 1) else none) else
       (bif Nat.beq pc 98 then some (.goto (-65), 3, 33, 0, 0, mj_u) else none)) else
      (bif Nat.blt pc 103 then (bif Nat.beq pc 101 then some (.iload 7, 2, 7, 0, 0, mj_u) else none) else
       (bif Nat.beq pc 103 then some (.istore 5, 2, 5, 0, 0, mj_u) else none))) else
     (bif Nat.blt pc 111 then (bif Nat.blt pc 108 then (bif Nat.beq pc 105 then some (.iinc 6 1, 3, 6, 0, 0, .int 1) else none) else
       (bif Nat.beq pc 108 then some (.goto (-95), 3, 13, 0, 0, mj_u) else none)) else
      (bif Nat.blt pc 113 then (bif Nat.beq pc 111 then some (.iload 5, 2, 5, 0, 0, mj_u) else none) else
       (bif Nat.beq pc 113 then some (.ireturn, 1, 0, 0, 0, mj_u) else none))))))
def m_ML_way : mj_M := (186, prog_12_method_30_code, 10, (Option.some Jvm.ClassFile.FieldType.int), 9, 3, 1342, 1340, 1341, 56, 114, k_ML_way)
/-- WatershedMapModel.steepness()D -/
def k_M_steepness : Nat → Option mj_I := fun pc =>
  bif Nat.blt pc 5 then (bif Nat.blt pc 1 then (bif Nat.beq pc 0 then some (.aload_n 0, 1, 0, 0, 0, mj_u) else none) else
   (bif Nat.blt pc 2 then (bif Nat.beq pc 1 then some (.iconst 0, 1, 0, 0, 0, .int 0) else none) else
    (bif Nat.beq pc 2 then some (.putfield 31, 3, 10, 0, 904, .int 0) else none))) else
  (bif Nat.blt pc 9 then (bif Nat.blt pc 6 then (bif Nat.beq pc 5 then some (.aload_n 0, 1, 0, 0, 0, mj_u) else none) else
    (bif Nat.beq pc 6 then some (.getfield 23, 3, 10, 1, 905, .null) else none)) else
   (bif Nat.blt pc 12 then (bif Nat.beq pc 9 then some (.invokevirtual 177, 3, 188, 0, 1348, mj_u) else none) else
    (bif Nat.beq pc 12 then some (.dreturn, 1, 0, 0, 0, mj_u) else none)))
def m_M_steepness : mj_M := (187, prog_11_method_43_code, 1, (Option.some Jvm.ClassFile.FieldType.double), 10, 0, 1347, 1345, 1346, 55, 13, k_M_steepness)
/-- WatershedMapModel$Land.steepness()D -/
def k_ML_steepness : Nat → Option mj_I := fun pc =>
  bif Nat.blt pc 41 then (bif Nat.blt pc 17 then (bif Nat.blt pc 6 then (bif Nat.blt pc 3 then (bif Nat.blt pc 1 then (bif Nat.beq pc 0 then some (.iconst 0, 1, 0, 0, 0, .int 0) else none) else
      (bif Nat.blt pc 2 then (bif Nat.beq pc 1 then some (.istore_n 1, 1, 1, 0, 0, mj_u) else none) else
       (bif Nat.beq pc 2 then some (.iconst 0, 1, 0, 0, 0, .int 0) else none))) else
     (bif Nat.blt pc 4 then (bif Nat.beq pc 3 then some (.istore_n 2, 1, 2, 0, 0, mj_u) else none) else
      (bif Nat.blt pc 5 then (bif Nat.beq pc 4 then some (.iload_n 2, 1, 2, 0, 0, mj_u) else none) else
       (bif Nat.beq pc 5 then some (.aload_n 0, 1, 0, 0, 0, mj_u) else none)))) else
    (bif Nat.blt pc 13 then (bif Nat.blt pc 9 then (bif Nat.beq pc 6 then some (.invokevirtual 45, 3, 127, 0, 981, mj_u) else none) else
      (bif Nat.blt pc 12 then (bif Nat.beq pc 9 then some (.if_icmp .ge 68, 3, 77, 0, 0, mj_u) else none) else
       (bif Nat.beq pc 12 then some (.iconst 0, 1, 0, 0, 0, .int 0) else none))) else
     (bif Nat.blt pc 14 then (bif Nat.beq pc 13 then some (.istore_n 3, 1, 3, 0, 0, mj_u) else none) else
      (bif Nat.blt pc 15 then (bif Nat.beq pc 14 then some (.iconst 0, 1, 0, 0, 0, .int 0) else none) else
       (bif Nat.beq pc 15 then some (.istore 4, 2, 4, 0, 0, mj_u) else none))))) else
   (bif Nat.blt pc 28 then (bif Nat.blt pc 24 then (bif Nat.blt pc 19 then (bif Nat.beq pc 17 then some (.iload 4, 2, 4, 0, 0, mj_u) else none) else
      (bif Nat.blt pc 21 then (bif Nat.beq pc 19 then some (.bipush 8, 2, 0, 0, 0, .int 8) else none) else
       (bif Nat.beq pc 21 then some (.if_icmp .ge 46, 3, 67, 0, 0, mj_u) else none))) else
     (bif Nat.blt pc 25 then (bif Nat.beq pc 24 then some (.aload_n 0, 1, 0, 0, 0, mj_u) else none) else
      (bif Nat.blt pc 26 then (bif Nat.beq pc 25 then some (.iload_n 2, 1, 2, 0, 0, mj_u) else none) else
       (bif Nat.beq pc 26 then some (.iload 4, 2, 4, 0, 0, mj_u) else none)))) else
    (bif Nat.blt pc 35 then (bif Nat.blt pc 31 then (bif Nat.beq pc 28 then some (.invokevirtual 53, 3, 134, 0, 1037, mj_u) else none) else
      (bif Nat.blt pc 34 then (bif Nat.beq pc 31 then some (.ifCond .lt 30, 3, 61, 0, 0, mj_u) else none) else
       (bif Nat.beq pc 34 then some (.iload_n 3, 1, 3, 0, 0, mj_u) else none))) else
     (bif Nat.blt pc 39 then (bif Nat.blt pc 36 then (bif Nat.beq pc 35 then some (.aload_n 0, 1, 0, 0, 0, mj_u) else none) else
       (bif Nat.beq pc 36 then some (.getfield 18, 3, 9, 2, 895, .null) else none)) else
      (bif Nat.blt pc 40 then (bif Nat.beq pc 39 then some (.iload_n 2, 1, 2, 0, 0, mj_u) else none) else
       (bif Nat.beq pc 40 then some (.iaload, 1, 0, 0, 0, mj_u) else none)))))) else
  (bif Nat.blt pc 67 then (bif Nat.blt pc 52 then (bif Nat.blt pc 46 then (bif Nat.blt pc 42 then (bif Nat.beq pc 41 then some (.aload_n 0, 1, 0, 0, 0, mj_u) else none) else
      (bif Nat.blt pc 45 then (bif Nat.beq pc 42 then some (.getfield 18, 3, 9, 2, 895, .null) else none) else
       (bif Nat.beq pc 45 then some (.aload_n 0, 1, 0, 0, 0, mj_u) else none))) else
     (bif Nat.blt pc 47 then (bif Nat.beq pc 46 then some (.iload_n 2, 1, 2, 0, 0, mj_u) else none) else
      (bif Nat.blt pc 49 then (bif Nat.beq pc 47 then some (.iload 4, 2, 4, 0, 0, mj_u) else none) else
       (bif Nat.beq pc 49 then some (.invokevirtual 53, 3, 134, 0, 1037, mj_u) else none)))) else
    (bif Nat.blt pc 57 then (bif Nat.blt pc 53 then (bif Nat.beq pc 52 then some (.iaload, 1, 0, 0, 0, mj_u) else none) else
      (bif Nat.blt pc 54 then (bif Nat.beq pc 53 then some (.isub, 1, 0, 0, 0, mj_u) else none) else
       (bif Nat.beq pc 54 then some (.invokestatic 105, 3, 54, 0, 1002, mj_u) else none))) else
     (bif Nat.blt pc 61 then (bif Nat.blt pc 60 then (bif Nat.beq pc 57 then some (.invokestatic 42, 3, 26, 0, 989, mj_u) else none) else
       (bif Nat.beq pc 60 then some (.istore_n 3, 1, 3, 0, 0, mj_u) else none)) else
      (bif Nat.blt pc 64 then (bif Nat.beq pc 61 then some (.iinc 4 1, 3, 4, 0, 0, .int 1) else none) else
       (bif Nat.beq pc 64 then some (.goto (-47), 3, 17, 0, 0, mj_u) else none))))) else
   (bif Nat.blt pc 77 then (bif Nat.blt pc 70 then (bif Nat.blt pc 68 then (bif Nat.beq pc 67 then some (.iload_n 1, 1, 1, 0, 0, mj_u) else none) else
      (bif Nat.blt pc 69 then (bif Nat.beq pc 68 then some (.iload_n 3, 1, 3, 0, 0, mj_u) else none) else
       (bif Nat.beq pc 69 then some (.iadd, 1, 0, 0, 0, mj_u) else none))) else
     (bif Nat.blt pc 71 then (bif Nat.beq pc 70 then some (.istore_n 1, 1, 1, 0, 0, mj_u) else none) else
      (bif Nat.blt pc 74 then (bif Nat.beq pc 71 then some (.iinc 2 1, 3, 2, 0, 0, .int 1) else none) else
       (bif Nat.beq pc 74 then some (.goto (-70), 3, 4, 0, 0, mj_u) else none)))) else
    (bif Nat.blt pc 80 then (bif Nat.blt pc 78 then (bif Nat.beq pc 77 then some (.iload_n 1, 1, 1, 0, 0, mj_u) else none) else
      (bif Nat.blt pc 79 then (bif Nat.beq pc 78 then some (.i2d, 1, 0, 0, 0, mj_u) else none) else
       (bif Nat.beq pc 79 then some (.aload_n 0, 1, 0, 0, 0, mj_u) else none))) else
     (bif Nat.blt pc 84 then (bif Nat.blt pc 83 then (bif Nat.beq pc 80 then some (.invokevirtual 45, 3, 127, 0, 981, mj_u) else none) else
       (bif Nat.beq pc 83 then some (.i2d, 1, 0, 0, 0, mj_u) else none)) else
      (bif Nat.blt pc 85 then (bif Nat.beq pc 84 then some (.ddiv, 1, 0, 0, 0, mj_u) else none) else
       (bif Nat.beq pc 85 then some (.dreturn, 1, 0, 0, 0, mj_u) else none))))))
def m_ML_steepness : mj_M := (188, prog_12_method_31_code, 5, (Option.some Jvm.ClassFile.FieldType.double), 9, 0, 1351, 1349, 1350, 56, 86, k_ML_steepness)
/-- WatershedMapModel.volumeWith(III)I -/
def k_M_volumeWith : Nat → Option mj_I := fun pc =>
  bif Nat.blt pc 26 then (bif Nat.blt pc 11 then (bif Nat.blt pc 3 then (bif Nat.blt pc 1 then (bif Nat.beq pc 0 then some (.aload_n 0, 1, 0, 0, 0, mj_u) else none) else
     (bif Nat.blt pc 2 then (bif Nat.beq pc 1 then some (.iload_n 1, 1, 1, 0, 0, mj_u) else none) else
      (bif Nat.beq pc 2 then some (.iload_n 2, 1, 2, 0, 0, mj_u) else none))) else
    (bif Nat.blt pc 9 then (bif Nat.blt pc 6 then (bif Nat.beq pc 3 then some (.invokevirtual 63, 3, 119, 0, 937, mj_u) else none) else
      (bif Nat.beq pc 6 then some (.ifCond .ne 27, 3, 33, 0, 0, mj_u) else none)) else
     (bif Nat.blt pc 10 then (bif Nat.beq pc 9 then some (.aload_n 0, 1, 0, 0, 0, mj_u) else none) else
      (bif Nat.beq pc 10 then some (.iload_n 3, 1, 3, 0, 0, mj_u) else none)))) else
   (bif Nat.blt pc 18 then (bif Nat.blt pc 12 then (bif Nat.beq pc 11 then some (.iconst 0, 1, 0, 0, 0, .int 0) else none) else
     (bif Nat.blt pc 15 then (bif Nat.beq pc 12 then some (.sipush 999, 3, 0, 0, 0, .int 999) else none) else
      (bif Nat.beq pc 15 then some (.invokestatic 41, 3, 115, 0, 922, mj_u) else none))) else
    (bif Nat.blt pc 22 then (bif Nat.blt pc 21 then (bif Nat.beq pc 18 then some (.ifCond .ne 7, 3, 25, 0, 0, mj_u) else none) else
      (bif Nat.beq pc 21 then some (.iconst 1, 1, 0, 0, 0, .int 1) else none)) else
     (bif Nat.blt pc 25 then (bif Nat.beq pc 22 then some (.goto 4, 3, 26, 0, 0, mj_u) else none) else
      (bif Nat.beq pc 25 then some (.iconst 0, 1, 0, 0, 0, .int 0) else none))))) else
  (bif Nat.blt pc 41 then (bif Nat.blt pc 33 then (bif Nat.blt pc 27 then (bif Nat.beq pc 26 then some (.iconst 2, 1, 0, 0, 0, .int 2) else none) else
     (bif Nat.blt pc 30 then (bif Nat.beq pc 27 then some (.invokevirtual 34, 3, 117, 0, 929, mj_u) else none) else
      (bif Nat.beq pc 30 then some (.ifCond .eq 7, 3, 37, 0, 0, mj_u) else none))) else
    (bif Nat.blt pc 37 then (bif Nat.blt pc 34 then (bif Nat.beq pc 33 then some (.iconst 0, 1, 0, 0, 0, .int 0) else none) else
      (bif Nat.beq pc 34 then some (.goto 20, 3, 54, 0, 0, mj_u) else none)) else
     (bif Nat.blt pc 38 then (bif Nat.beq pc 37 then some (.aload_n 0, 1, 0, 0, 0, mj_u) else none) else
      (bif Nat.beq pc 38 then some (.getfield 23, 3, 10, 1, 905, .null) else none)))) else
   (bif Nat.blt pc 47 then (bif Nat.blt pc 43 then (bif Nat.blt pc 42 then (bif Nat.beq pc 41 then some (.aload_n 0, 1, 0, 0, 0, mj_u) else none) else
      (bif Nat.beq pc 42 then some (.iload_n 1, 1, 1, 0, 0, mj_u) else none)) else
     (bif Nat.blt pc 44 then (bif Nat.beq pc 43 then some (.iload_n 2, 1, 2, 0, 0, mj_u) else none) else
      (bif Nat.beq pc 44 then some (.invokevirtual 66, 3, 121, 0, 945, mj_u) else none))) else
    (bif Nat.blt pc 51 then (bif Nat.blt pc 48 then (bif Nat.beq pc 47 then some (.iload_n 3, 1, 3, 0, 0, mj_u) else none) else
      (bif Nat.beq pc 48 then some (.invokevirtual 69, 3, 122, 0, 949, mj_u) else none)) else
     (bif Nat.blt pc 54 then (bif Nat.beq pc 51 then some (.invokevirtual 110, 3, 141, 0, 1046, mj_u) else none) else
      (bif Nat.beq pc 54 then some (.ireturn, 1, 0, 0, 0, mj_u) else none)))))
def m_M_volumeWith : mj_M := (189, prog_11_method_44_code, 4, (Option.some Jvm.ClassFile.FieldType.int), 10, 3, 1355, 1353, 1354, 55, 55, k_M_volumeWith)
/-- WatershedMapModel.endsWith(III)I -/
def k_M_endsWith : Nat → Option mj_I := fun pc =>
  bif Nat.blt pc 54 then (bif Nat.blt pc 26 then (bif Nat.blt pc 11 then (bif Nat.blt pc 3 then (bif Nat.blt pc 1 then (bif Nat.beq pc 0 then some (.aload_n 0, 1, 0, 0, 0, mj_u) else none) else
      (bif Nat.blt pc 2 then (bif Nat.beq pc 1 then some (.iload_n 1, 1, 1, 0, 0, mj_u) else none) else
       (bif Nat.beq pc 2 then some (.iload_n 2, 1, 2, 0, 0, mj_u) else none))) else
     (bif Nat.blt pc 9 then (bif Nat.blt pc 6 then (bif Nat.beq pc 3 then some (.invokevirtual 63, 3, 119, 0, 937, mj_u) else none) else
       (bif Nat.beq pc 6 then some (.ifCond .ne 27, 3, 33, 0, 0, mj_u) else none)) else
      (bif Nat.blt pc 10 then (bif Nat.beq pc 9 then some (.aload_n 0, 1, 0, 0, 0, mj_u) else none) else
       (bif Nat.beq pc 10 then some (.iload_n 3, 1, 3, 0, 0, mj_u) else none)))) else
    (bif Nat.blt pc 18 then (bif Nat.blt pc 12 then (bif Nat.beq pc 11 then some (.iconst 0, 1, 0, 0, 0, .int 0) else none) else
      (bif Nat.blt pc 15 then (bif Nat.beq pc 12 then some (.sipush 999, 3, 0, 0, 0, .int 999) else none) else
       (bif Nat.beq pc 15 then some (.invokestatic 41, 3, 115, 0, 922, mj_u) else none))) else
     (bif Nat.blt pc 22 then (bif Nat.blt pc 21 then (bif Nat.beq pc 18 then some (.ifCond .ne 7, 3, 25, 0, 0, mj_u) else none) else
       (bif Nat.beq pc 21 then some (.iconst 1, 1, 0, 0, 0, .int 1) else none)) else
      (bif Nat.blt pc 25 then (bif Nat.beq pc 22 then some (.goto 4, 3, 26, 0, 0, mj_u) else none) else
       (bif Nat.beq pc 25 then some (.iconst 0, 1, 0, 0, 0, .int 0) else none))))) else
   (bif Nat.blt pc 39 then (bif Nat.blt pc 33 then (bif Nat.blt pc 27 then (bif Nat.beq pc 26 then some (.iconst 2, 1, 0, 0, 0, .int 2) else none) else
      (bif Nat.blt pc 30 then (bif Nat.beq pc 27 then some (.invokevirtual 34, 3, 117, 0, 929, mj_u) else none) else
       (bif Nat.beq pc 30 then some (.ifCond .eq 5, 3, 35, 0, 0, mj_u) else none))) else
     (bif Nat.blt pc 35 then (bif Nat.blt pc 34 then (bif Nat.beq pc 33 then some (.iconst 0, 1, 0, 0, 0, .int 0) else none) else
       (bif Nat.beq pc 34 then some (.ireturn, 1, 0, 0, 0, mj_u) else none)) else
      (bif Nat.blt pc 36 then (bif Nat.beq pc 35 then some (.aload_n 0, 1, 0, 0, 0, mj_u) else none) else
       (bif Nat.beq pc 36 then some (.getfield 23, 3, 10, 1, 905, .null) else none)))) else
    (bif Nat.blt pc 48 then (bif Nat.blt pc 44 then (bif Nat.blt pc 42 then (bif Nat.beq pc 39 then some (.invokevirtual 102, 3, 136, 0, 1025, mj_u) else none) else
       (bif Nat.beq pc 42 then some (.astore 4, 2, 4, 0, 0, mj_u) else none)) else
      (bif Nat.blt pc 45 then (bif Nat.beq pc 44 then some (.aload_n 0, 1, 0, 0, 0, mj_u) else none) else
       (bif Nat.beq pc 45 then some (.getfield 23, 3, 10, 1, 905, .null) else none))) else
     (bif Nat.blt pc 50 then (bif Nat.blt pc 49 then (bif Nat.beq pc 48 then some (.aload_n 0, 1, 0, 0, 0, mj_u) else none) else
       (bif Nat.beq pc 49 then some (.iload_n 1, 1, 1, 0, 0, mj_u) else none)) else
      (bif Nat.blt pc 51 then (bif Nat.beq pc 50 then some (.iload_n 2, 1, 2, 0, 0, mj_u) else none) else
       (bif Nat.beq pc 51 then some (.invokevirtual 66, 3, 121, 0, 945, mj_u) else none)))))) else
  (bif Nat.blt pc 81 then (bif Nat.blt pc 67 then (bif Nat.blt pc 61 then (bif Nat.blt pc 55 then (bif Nat.beq pc 54 then some (.iload_n 3, 1, 3, 0, 0, mj_u) else none) else
      (bif Nat.blt pc 58 then (bif Nat.beq pc 55 then some (.invokevirtual 69, 3, 122, 0, 949, mj_u) else none) else
       (bif Nat.beq pc 58 then some (.invokevirtual 102, 3, 136, 0, 1025, mj_u) else none))) else
     (bif Nat.blt pc 64 then (bif Nat.blt pc 63 then (bif Nat.beq pc 61 then some (.astore 5, 2, 5, 0, 0, mj_u) else none) else
       (bif Nat.beq pc 63 then some (.iconst 0, 1, 0, 0, 0, .int 0) else none)) else
      (bif Nat.blt pc 66 then (bif Nat.beq pc 64 then some (.istore 6, 2, 6, 0, 0, mj_u) else none) else
       (bif Nat.beq pc 66 then some (.iconst 0, 1, 0, 0, 0, .int 0) else none)))) else
    (bif Nat.blt pc 73 then (bif Nat.blt pc 69 then (bif Nat.beq pc 67 then some (.istore 7, 2, 7, 0, 0, mj_u) else none) else
      (bif Nat.blt pc 71 then (bif Nat.beq pc 69 then some (.iload 7, 2, 7, 0, 0, mj_u) else none) else
       (bif Nat.beq pc 71 then some (.aload 4, 2, 4, 0, 0, mj_u) else none))) else
     (bif Nat.blt pc 77 then (bif Nat.blt pc 74 then (bif Nat.beq pc 73 then some (.arraylength, 1, 0, 0, 0, mj_u) else none) else
       (bif Nat.beq pc 74 then some (.if_icmp .ge 36, 3, 110, 0, 0, mj_u) else none)) else
      (bif Nat.blt pc 79 then (bif Nat.beq pc 77 then some (.iload 6, 2, 6, 0, 0, mj_u) else none) else
       (bif Nat.beq pc 79 then some (.aload 4, 2, 4, 0, 0, mj_u) else none))))) else
   (bif Nat.blt pc 97 then (bif Nat.blt pc 88 then (bif Nat.blt pc 83 then (bif Nat.beq pc 81 then some (.iload 7, 2, 7, 0, 0, mj_u) else none) else
      (bif Nat.blt pc 86 then (bif Nat.beq pc 83 then some (.invokestatic 128, 3, 151, 0, 1089, mj_u) else none) else
       (bif Nat.beq pc 86 then some (.aload 5, 2, 5, 0, 0, mj_u) else none))) else
     (bif Nat.blt pc 93 then (bif Nat.blt pc 90 then (bif Nat.beq pc 88 then some (.iload 7, 2, 7, 0, 0, mj_u) else none) else
       (bif Nat.beq pc 90 then some (.invokestatic 128, 3, 151, 0, 1089, mj_u) else none)) else
      (bif Nat.blt pc 96 then (bif Nat.beq pc 93 then some (.if_icmp .eq 7, 3, 100, 0, 0, mj_u) else none) else
       (bif Nat.beq pc 96 then some (.iconst 1, 1, 0, 0, 0, .int 1) else none)))) else
    (bif Nat.blt pc 104 then (bif Nat.blt pc 101 then (bif Nat.blt pc 100 then (bif Nat.beq pc 97 then some (.goto 4, 3, 101, 0, 0, mj_u) else none) else
       (bif Nat.beq pc 100 then some (.iconst 0, 1, 0, 0, 0, .int 0) else none)) else
      (bif Nat.blt pc 102 then (bif Nat.beq pc 101 then some (.iadd, 1, 0, 0, 0, mj_u) else none) else
       (bif Nat.beq pc 102 then some (.istore 6, 2, 6, 0, 0, mj_u) else none))) else
     (bif Nat.blt pc 110 then (bif Nat.blt pc 107 then (bif Nat.beq pc 104 then some (.iinc 7 1, 3, 7, 0, 0, .int 1) else none) else
       (bif Nat.beq pc 107 then some (.goto (-38), 3, 69, 0, 0, mj_u) else none)) else
      (bif Nat.blt pc 112 then (bif Nat.beq pc 110 then some (.iload 6, 2, 6, 0, 0, mj_u) else none) else
       (bif Nat.beq pc 112 then some (.ireturn, 1, 0, 0, 0, mj_u) else none))))))
def m_M_endsWith : mj_M := (190, prog_11_method_45_code, 8, (Option.some Jvm.ClassFile.FieldType.int), 10, 3, 1359, 1357, 1358, 55, 113, k_M_endsWith)
/-- WatershedMapModel.lookout(II)I -/
def k_M_lookout : Nat → Option mj_I := fun pc =>
  bif Nat.blt pc 57 then (bif Nat.blt pc 27 then (bif Nat.blt pc 11 then (bif Nat.blt pc 3 then (bif Nat.blt pc 1 then (bif Nat.beq pc 0 then some (.aload_n 0, 1, 0, 0, 0, mj_u) else none) else
      (bif Nat.blt pc 2 then (bif Nat.beq pc 1 then some (.iload_n 1, 1, 1, 0, 0, mj_u) else none) else
       (bif Nat.beq pc 2 then some (.iconst 0, 1, 0, 0, 0, .int 0) else none))) else
     (bif Nat.blt pc 7 then (bif Nat.blt pc 4 then (bif Nat.beq pc 3 then some (.aload_n 0, 1, 0, 0, 0, mj_u) else none) else
       (bif Nat.beq pc 4 then some (.getfield 23, 3, 10, 1, 905, .null) else none)) else
      (bif Nat.blt pc 10 then (bif Nat.beq pc 7 then some (.getfield 45, 3, 9, 1, 894, .int 0) else none) else
       (bif Nat.beq pc 10 then some (.iconst 1, 1, 0, 0, 0, .int 1) else none)))) else
    (bif Nat.blt pc 19 then (bif Nat.blt pc 15 then (bif Nat.blt pc 12 then (bif Nat.beq pc 11 then some (.isub, 1, 0, 0, 0, mj_u) else none) else
       (bif Nat.beq pc 12 then some (.invokestatic 41, 3, 115, 0, 922, mj_u) else none)) else
      (bif Nat.blt pc 18 then (bif Nat.beq pc 15 then some (.ifCond .ne 7, 3, 22, 0, 0, mj_u) else none) else
       (bif Nat.beq pc 18 then some (.iconst 1, 1, 0, 0, 0, .int 1) else none))) else
     (bif Nat.blt pc 23 then (bif Nat.blt pc 22 then (bif Nat.beq pc 19 then some (.goto 4, 3, 23, 0, 0, mj_u) else none) else
       (bif Nat.beq pc 22 then some (.iconst 0, 1, 0, 0, 0, .int 0) else none)) else
      (bif Nat.blt pc 24 then (bif Nat.beq pc 23 then some (.iconst 1, 1, 0, 0, 0, .int 1) else none) else
       (bif Nat.beq pc 24 then some (.invokevirtual 52, 3, 116, 0, 925, mj_u) else none))))) else
   (bif Nat.blt pc 43 then (bif Nat.blt pc 33 then (bif Nat.blt pc 31 then (bif Nat.blt pc 30 then (bif Nat.beq pc 27 then some (.ifCond .ne 27, 3, 54, 0, 0, mj_u) else none) else
       (bif Nat.beq pc 30 then some (.aload_n 0, 1, 0, 0, 0, mj_u) else none)) else
      (bif Nat.blt pc 32 then (bif Nat.beq pc 31 then some (.iload_n 2, 1, 2, 0, 0, mj_u) else none) else
       (bif Nat.beq pc 32 then some (.iconst 0, 1, 0, 0, 0, .int 0) else none))) else
     (bif Nat.blt pc 39 then (bif Nat.blt pc 36 then (bif Nat.beq pc 33 then some (.sipush 500, 3, 0, 0, 0, .int 500) else none) else
       (bif Nat.beq pc 36 then some (.invokestatic 41, 3, 115, 0, 922, mj_u) else none)) else
      (bif Nat.blt pc 42 then (bif Nat.beq pc 39 then some (.ifCond .ne 7, 3, 46, 0, 0, mj_u) else none) else
       (bif Nat.beq pc 42 then some (.iconst 1, 1, 0, 0, 0, .int 1) else none)))) else
    (bif Nat.blt pc 51 then (bif Nat.blt pc 47 then (bif Nat.blt pc 46 then (bif Nat.beq pc 43 then some (.goto 4, 3, 47, 0, 0, mj_u) else none) else
       (bif Nat.beq pc 46 then some (.iconst 0, 1, 0, 0, 0, .int 0) else none)) else
      (bif Nat.blt pc 48 then (bif Nat.beq pc 47 then some (.iconst 2, 1, 0, 0, 0, .int 2) else none) else
       (bif Nat.beq pc 48 then some (.invokevirtual 34, 3, 117, 0, 929, mj_u) else none))) else
     (bif Nat.blt pc 55 then (bif Nat.blt pc 54 then (bif Nat.beq pc 51 then some (.ifCond .eq 5, 3, 56, 0, 0, mj_u) else none) else
       (bif Nat.beq pc 54 then some (.iconst 0, 1, 0, 0, 0, .int 0) else none)) else
      (bif Nat.blt pc 56 then (bif Nat.beq pc 55 then some (.ireturn, 1, 0, 0, 0, mj_u) else none) else
       (bif Nat.beq pc 56 then some (.iconst 0, 1, 0, 0, 0, .int 0) else none)))))) else
  (bif Nat.blt pc 85 then (bif Nat.blt pc 70 then (bif Nat.blt pc 61 then (bif Nat.blt pc 58 then (bif Nat.beq pc 57 then some (.istore_n 3, 1, 3, 0, 0, mj_u) else none) else
      (bif Nat.blt pc 59 then (bif Nat.beq pc 58 then some (.iconst 1, 1, 0, 0, 0, .int 1) else none) else
       (bif Nat.beq pc 59 then some (.istore 4, 2, 4, 0, 0, mj_u) else none))) else
     (bif Nat.blt pc 64 then (bif Nat.blt pc 63 then (bif Nat.beq pc 61 then some (.iload 4, 2, 4, 0, 0, mj_u) else none) else
       (bif Nat.beq pc 63 then some (.aload_n 0, 1, 0, 0, 0, mj_u) else none)) else
      (bif Nat.blt pc 67 then (bif Nat.beq pc 64 then some (.getfield 23, 3, 10, 1, 905, .null) else none) else
       (bif Nat.beq pc 67 then some (.getfield 38, 3, 9, 0, 892, .int 0) else none)))) else
    (bif Nat.blt pc 78 then (bif Nat.blt pc 74 then (bif Nat.blt pc 73 then (bif Nat.beq pc 70 then some (.if_icmp .ge 44, 3, 114, 0, 0, mj_u) else none) else
       (bif Nat.beq pc 73 then some (.aload_n 0, 1, 0, 0, 0, mj_u) else none)) else
      (bif Nat.blt pc 77 then (bif Nat.beq pc 74 then some (.getfield 23, 3, 10, 1, 905, .null) else none) else
       (bif Nat.beq pc 77 then some (.aload_n 0, 1, 0, 0, 0, mj_u) else none))) else
     (bif Nat.blt pc 81 then (bif Nat.blt pc 80 then (bif Nat.beq pc 78 then some (.iload 4, 2, 4, 0, 0, mj_u) else none) else
       (bif Nat.beq pc 80 then some (.iload_n 1, 1, 1, 0, 0, mj_u) else none)) else
      (bif Nat.blt pc 84 then (bif Nat.beq pc 81 then some (.invokevirtual 66, 3, 121, 0, 945, mj_u) else none) else
       (bif Nat.beq pc 84 then some (.iload_n 2, 1, 2, 0, 0, mj_u) else none))))) else
   (bif Nat.blt pc 99 then (bif Nat.blt pc 93 then (bif Nat.blt pc 89 then (bif Nat.blt pc 88 then (bif Nat.beq pc 85 then some (.invokevirtual 168, 3, 181, 0, 1317, mj_u) else none) else
       (bif Nat.beq pc 88 then some (.aload_n 0, 1, 0, 0, 0, mj_u) else none)) else
      (bif Nat.blt pc 92 then (bif Nat.beq pc 89 then some (.getfield 23, 3, 10, 1, 905, .null) else none) else
       (bif Nat.beq pc 92 then some (.aload_n 0, 1, 0, 0, 0, mj_u) else none))) else
     (bif Nat.blt pc 95 then (bif Nat.blt pc 94 then (bif Nat.beq pc 93 then some (.iload_n 3, 1, 3, 0, 0, mj_u) else none) else
       (bif Nat.beq pc 94 then some (.iload_n 1, 1, 1, 0, 0, mj_u) else none)) else
      (bif Nat.blt pc 98 then (bif Nat.beq pc 95 then some (.invokevirtual 66, 3, 121, 0, 945, mj_u) else none) else
       (bif Nat.beq pc 98 then some (.iload_n 2, 1, 2, 0, 0, mj_u) else none)))) else
    (bif Nat.blt pc 108 then (bif Nat.blt pc 105 then (bif Nat.blt pc 102 then (bif Nat.beq pc 99 then some (.invokevirtual 168, 3, 181, 0, 1317, mj_u) else none) else
       (bif Nat.beq pc 102 then some (.if_icmp .le 6, 3, 108, 0, 0, mj_u) else none)) else
      (bif Nat.blt pc 107 then (bif Nat.beq pc 105 then some (.iload 4, 2, 4, 0, 0, mj_u) else none) else
       (bif Nat.beq pc 107 then some (.istore_n 3, 1, 3, 0, 0, mj_u) else none))) else
     (bif Nat.blt pc 114 then (bif Nat.blt pc 111 then (bif Nat.beq pc 108 then some (.iinc 4 1, 3, 4, 0, 0, .int 1) else none) else
       (bif Nat.beq pc 111 then some (.goto (-50), 3, 61, 0, 0, mj_u) else none)) else
      (bif Nat.blt pc 115 then (bif Nat.beq pc 114 then some (.iload_n 3, 1, 3, 0, 0, mj_u) else none) else
       (bif Nat.beq pc 115 then some (.ireturn, 1, 0, 0, 0, mj_u) else none))))))
def m_M_lookout : mj_M := (191, prog_11_method_46_code, 5, (Option.some Jvm.ClassFile.FieldType.int), 10, 2, 1363, 1361, 1362, 55, 116, k_M_lookout)
/-- WatershedMapModel.digest()J -/
def k_M_digest : Nat → Option mj_I := fun pc =>
  bif Nat.blt pc 125 then (bif Nat.blt pc 59 then (bif Nat.blt pc 26 then (bif Nat.blt pc 12 then (bif Nat.blt pc 8 then (bif Nat.blt pc 2 then (bif Nat.blt pc 1 then (bif Nat.beq pc 0 then some (.aload_n 0, 1, 0, 0, 0, mj_u) else none) else
        (bif Nat.beq pc 1 then some (.iconst 0, 1, 0, 0, 0, .int 0) else none)) else
       (bif Nat.blt pc 5 then (bif Nat.beq pc 2 then some (.putfield 31, 3, 10, 0, 904, .int 0) else none) else
        (bif Nat.beq pc 5 then some (.ldc2_w 183, 3, 0, 0, 1368, .long 58078) else none))) else
      (bif Nat.blt pc 10 then (bif Nat.blt pc 9 then (bif Nat.beq pc 8 then some (.lstore_n 1, 1, 1, 0, 0, mj_u) else none) else
        (bif Nat.beq pc 9 then some (.iconst 0, 1, 0, 0, 0, .int 0) else none)) else
       (bif Nat.blt pc 11 then (bif Nat.beq pc 10 then some (.istore_n 3, 1, 3, 0, 0, mj_u) else none) else
        (bif Nat.beq pc 11 then some (.iload_n 3, 1, 3, 0, 0, mj_u) else none)))) else
     (bif Nat.blt pc 18 then (bif Nat.blt pc 16 then (bif Nat.blt pc 13 then (bif Nat.beq pc 12 then some (.iconst 5, 1, 0, 0, 0, .int 5) else none) else
        (bif Nat.beq pc 13 then some (.if_icmp .ge 20, 3, 33, 0, 0, mj_u) else none)) else
       (bif Nat.blt pc 17 then (bif Nat.beq pc 16 then some (.lload_n 1, 1, 1, 0, 0, mj_u) else none) else
        (bif Nat.beq pc 17 then some (.aload_n 0, 1, 0, 0, 0, mj_u) else none))) else
      (bif Nat.blt pc 22 then (bif Nat.blt pc 19 then (bif Nat.beq pc 18 then some (.iload_n 3, 1, 3, 0, 0, mj_u) else none) else
        (bif Nat.beq pc 19 then some (.invokevirtual 122, 3, 145, 0, 1064, mj_u) else none)) else
       (bif Nat.blt pc 23 then (bif Nat.beq pc 22 then some (.i2l, 1, 0, 0, 0, mj_u) else none) else
        (bif Nat.beq pc 23 then some (.invokestatic 185, 3, 193, 0, 1369, mj_u) else none))))) else
    (bif Nat.blt pc 41 then (bif Nat.blt pc 34 then (bif Nat.blt pc 30 then (bif Nat.blt pc 27 then (bif Nat.beq pc 26 then some (.lstore_n 1, 1, 1, 0, 0, mj_u) else none) else
        (bif Nat.beq pc 27 then some (.iinc 3 1, 3, 3, 0, 0, .int 1) else none)) else
       (bif Nat.blt pc 33 then (bif Nat.beq pc 30 then some (.goto (-19), 3, 11, 0, 0, mj_u) else none) else
        (bif Nat.beq pc 33 then some (.lload_n 1, 1, 1, 0, 0, mj_u) else none))) else
      (bif Nat.blt pc 37 then (bif Nat.blt pc 35 then (bif Nat.beq pc 34 then some (.aload_n 0, 1, 0, 0, 0, mj_u) else none) else
        (bif Nat.beq pc 35 then some (.bipush 8, 2, 0, 0, 0, .int 8) else none)) else
       (bif Nat.blt pc 40 then (bif Nat.beq pc 37 then some (.invokevirtual 143, 3, 155, 0, 1104, mj_u) else none) else
        (bif Nat.beq pc 40 then some (.i2l, 1, 0, 0, 0, mj_u) else none)))) else
     (bif Nat.blt pc 50 then (bif Nat.blt pc 45 then (bif Nat.blt pc 44 then (bif Nat.beq pc 41 then some (.invokestatic 185, 3, 193, 0, 1369, mj_u) else none) else
        (bif Nat.beq pc 44 then some (.aload_n 0, 1, 0, 0, 0, mj_u) else none)) else
       (bif Nat.blt pc 47 then (bif Nat.beq pc 45 then some (.bipush 9, 2, 0, 0, 0, .int 9) else none) else
        (bif Nat.beq pc 47 then some (.invokevirtual 143, 3, 155, 0, 1104, mj_u) else none))) else
      (bif Nat.blt pc 54 then (bif Nat.blt pc 51 then (bif Nat.beq pc 50 then some (.i2l, 1, 0, 0, 0, mj_u) else none) else
        (bif Nat.beq pc 51 then some (.invokestatic 185, 3, 193, 0, 1369, mj_u) else none)) else
       (bif Nat.blt pc 55 then (bif Nat.beq pc 54 then some (.aload_n 0, 1, 0, 0, 0, mj_u) else none) else
        (bif Nat.blt pc 58 then (bif Nat.beq pc 55 then some (.invokevirtual 149, 3, 159, 0, 1120, mj_u) else none) else
         (bif Nat.beq pc 58 then some (.i2l, 1, 0, 0, 0, mj_u) else none))))))) else
   (bif Nat.blt pc 93 then (bif Nat.blt pc 75 then (bif Nat.blt pc 67 then (bif Nat.blt pc 63 then (bif Nat.blt pc 62 then (bif Nat.beq pc 59 then some (.invokestatic 185, 3, 193, 0, 1369, mj_u) else none) else
        (bif Nat.beq pc 62 then some (.aload_n 0, 1, 0, 0, 0, mj_u) else none)) else
       (bif Nat.blt pc 66 then (bif Nat.beq pc 63 then some (.invokevirtual 152, 3, 161, 0, 1128, mj_u) else none) else
        (bif Nat.beq pc 66 then some (.i2l, 1, 0, 0, 0, mj_u) else none))) else
      (bif Nat.blt pc 71 then (bif Nat.blt pc 70 then (bif Nat.beq pc 67 then some (.invokestatic 185, 3, 193, 0, 1369, mj_u) else none) else
        (bif Nat.beq pc 70 then some (.aload_n 0, 1, 0, 0, 0, mj_u) else none)) else
       (bif Nat.blt pc 74 then (bif Nat.beq pc 71 then some (.invokevirtual 158, 3, 164, 0, 1140, mj_u) else none) else
        (bif Nat.beq pc 74 then some (.i2l, 1, 0, 0, 0, mj_u) else none)))) else
     (bif Nat.blt pc 85 then (bif Nat.blt pc 79 then (bif Nat.blt pc 78 then (bif Nat.beq pc 75 then some (.invokestatic 185, 3, 193, 0, 1369, mj_u) else none) else
        (bif Nat.beq pc 78 then some (.aload_n 0, 1, 0, 0, 0, mj_u) else none)) else
       (bif Nat.blt pc 82 then (bif Nat.beq pc 79 then some (.getfield 23, 3, 10, 1, 905, .null) else none) else
        (bif Nat.beq pc 82 then some (.invokevirtual 110, 3, 141, 0, 1046, mj_u) else none))) else
      (bif Nat.blt pc 89 then (bif Nat.blt pc 86 then (bif Nat.beq pc 85 then some (.i2l, 1, 0, 0, 0, mj_u) else none) else
        (bif Nat.beq pc 86 then some (.invokestatic 185, 3, 193, 0, 1369, mj_u) else none)) else
       (bif Nat.blt pc 90 then (bif Nat.beq pc 89 then some (.lstore_n 1, 1, 1, 0, 0, mj_u) else none) else
        (bif Nat.blt pc 92 then (bif Nat.beq pc 90 then some (.bipush 100, 2, 0, 0, 0, .int 100) else none) else
         (bif Nat.beq pc 92 then some (.istore_n 3, 1, 3, 0, 0, mj_u) else none)))))) else
    (bif Nat.blt pc 110 then (bif Nat.blt pc 101 then (bif Nat.blt pc 97 then (bif Nat.blt pc 94 then (bif Nat.beq pc 93 then some (.iload_n 3, 1, 3, 0, 0, mj_u) else none) else
        (bif Nat.beq pc 94 then some (.sipush 400, 3, 0, 0, 0, .int 400) else none)) else
       (bif Nat.blt pc 100 then (bif Nat.beq pc 97 then some (.if_icmp .gt 46, 3, 143, 0, 0, mj_u) else none) else
        (bif Nat.beq pc 100 then some (.aload_n 0, 1, 0, 0, 0, mj_u) else none))) else
      (bif Nat.blt pc 105 then (bif Nat.blt pc 104 then (bif Nat.beq pc 101 then some (.getfield 23, 3, 10, 1, 905, .null) else none) else
        (bif Nat.beq pc 104 then some (.iload_n 3, 1, 3, 0, 0, mj_u) else none)) else
       (bif Nat.blt pc 108 then (bif Nat.beq pc 105 then some (.invokevirtual 161, 3, 169, 0, 1160, mj_u) else none) else
        (bif Nat.beq pc 108 then some (.astore 4, 2, 4, 0, 0, mj_u) else none)))) else
     (bif Nat.blt pc 116 then (bif Nat.blt pc 113 then (bif Nat.blt pc 111 then (bif Nat.beq pc 110 then some (.iconst 0, 1, 0, 0, 0, .int 0) else none) else
        (bif Nat.beq pc 111 then some (.istore 5, 2, 5, 0, 0, mj_u) else none)) else
       (bif Nat.blt pc 115 then (bif Nat.beq pc 113 then some (.iload 5, 2, 5, 0, 0, mj_u) else none) else
        (bif Nat.beq pc 115 then some (.iconst 3, 1, 0, 0, 0, .int 3) else none))) else
      (bif Nat.blt pc 120 then (bif Nat.blt pc 119 then (bif Nat.beq pc 116 then some (.if_icmp .ge 20, 3, 136, 0, 0, mj_u) else none) else
        (bif Nat.beq pc 119 then some (.lload_n 1, 1, 1, 0, 0, mj_u) else none)) else
       (bif Nat.blt pc 122 then (bif Nat.beq pc 120 then some (.aload 4, 2, 4, 0, 0, mj_u) else none) else
        (bif Nat.blt pc 124 then (bif Nat.beq pc 122 then some (.iload 5, 2, 5, 0, 0, mj_u) else none) else
         (bif Nat.beq pc 124 then some (.iaload, 1, 0, 0, 0, mj_u) else none)))))))) else
  (bif Nat.blt pc 190 then (bif Nat.blt pc 155 then (bif Nat.blt pc 139 then (bif Nat.blt pc 133 then (bif Nat.blt pc 129 then (bif Nat.blt pc 126 then (bif Nat.beq pc 125 then some (.i2l, 1, 0, 0, 0, mj_u) else none) else
        (bif Nat.beq pc 126 then some (.invokestatic 185, 3, 193, 0, 1369, mj_u) else none)) else
       (bif Nat.blt pc 130 then (bif Nat.beq pc 129 then some (.lstore_n 1, 1, 1, 0, 0, mj_u) else none) else
        (bif Nat.beq pc 130 then some (.iinc 5 1, 3, 5, 0, 0, .int 1) else none))) else
      (bif Nat.blt pc 137 then (bif Nat.blt pc 136 then (bif Nat.beq pc 133 then some (.goto (-20), 3, 113, 0, 0, mj_u) else none) else
        (bif Nat.beq pc 136 then some (.iload_n 3, 1, 3, 0, 0, mj_u) else none)) else
       (bif Nat.blt pc 138 then (bif Nat.beq pc 137 then some (.iconst 2, 1, 0, 0, 0, .int 2) else none) else
        (bif Nat.beq pc 138 then some (.imul, 1, 0, 0, 0, mj_u) else none)))) else
     (bif Nat.blt pc 147 then (bif Nat.blt pc 143 then (bif Nat.blt pc 140 then (bif Nat.beq pc 139 then some (.istore_n 3, 1, 3, 0, 0, mj_u) else none) else
        (bif Nat.beq pc 140 then some (.goto (-47), 3, 93, 0, 0, mj_u) else none)) else
       (bif Nat.blt pc 144 then (bif Nat.beq pc 143 then some (.aload_n 0, 1, 0, 0, 0, mj_u) else none) else
        (bif Nat.beq pc 144 then some (.getfield 23, 3, 10, 1, 905, .null) else none))) else
      (bif Nat.blt pc 151 then (bif Nat.blt pc 150 then (bif Nat.beq pc 147 then some (.invokevirtual 102, 3, 136, 0, 1025, mj_u) else none) else
        (bif Nat.beq pc 150 then some (.astore_n 3, 1, 3, 0, 0, mj_u) else none)) else
       (bif Nat.blt pc 152 then (bif Nat.beq pc 151 then some (.aload_n 0, 1, 0, 0, 0, mj_u) else none) else
        (bif Nat.beq pc 152 then some (.getfield 23, 3, 10, 1, 905, .null) else none))))) else
    (bif Nat.blt pc 171 then (bif Nat.blt pc 162 then (bif Nat.blt pc 159 then (bif Nat.blt pc 156 then (bif Nat.beq pc 155 then some (.aload_n 3, 1, 3, 0, 0, mj_u) else none) else
        (bif Nat.beq pc 156 then some (.invokevirtual 106, 3, 139, 0, 1038, mj_u) else none)) else
       (bif Nat.blt pc 161 then (bif Nat.beq pc 159 then some (.astore 4, 2, 4, 0, 0, mj_u) else none) else
        (bif Nat.beq pc 161 then some (.aload_n 0, 1, 0, 0, 0, mj_u) else none))) else
      (bif Nat.blt pc 168 then (bif Nat.blt pc 165 then (bif Nat.beq pc 162 then some (.getfield 23, 3, 10, 1, 905, .null) else none) else
        (bif Nat.beq pc 165 then some (.invokevirtual 113, 3, 142, 0, 1055, mj_u) else none)) else
       (bif Nat.blt pc 170 then (bif Nat.beq pc 168 then some (.astore 5, 2, 5, 0, 0, mj_u) else none) else
        (bif Nat.beq pc 170 then some (.iconst 0, 1, 0, 0, 0, .int 0) else none)))) else
     (bif Nat.blt pc 179 then (bif Nat.blt pc 175 then (bif Nat.blt pc 173 then (bif Nat.beq pc 171 then some (.istore 6, 2, 6, 0, 0, mj_u) else none) else
        (bif Nat.beq pc 173 then some (.iload 6, 2, 6, 0, 0, mj_u) else none)) else
       (bif Nat.blt pc 176 then (bif Nat.beq pc 175 then some (.aload_n 0, 1, 0, 0, 0, mj_u) else none) else
        (bif Nat.beq pc 176 then some (.getfield 23, 3, 10, 1, 905, .null) else none))) else
      (bif Nat.blt pc 185 then (bif Nat.blt pc 182 then (bif Nat.beq pc 179 then some (.invokevirtual 96, 3, 127, 0, 1012, mj_u) else none) else
        (bif Nat.beq pc 182 then some (.if_icmp .ge 68, 3, 250, 0, 0, mj_u) else none)) else
       (bif Nat.blt pc 186 then (bif Nat.beq pc 185 then some (.lload_n 1, 1, 1, 0, 0, mj_u) else none) else
        (bif Nat.blt pc 187 then (bif Nat.beq pc 186 then some (.aload_n 0, 1, 0, 0, 0, mj_u) else none) else
         (bif Nat.beq pc 187 then some (.getfield 23, 3, 10, 1, 905, .null) else none))))))) else
   (bif Nat.blt pc 219 then (bif Nat.blt pc 204 then (bif Nat.blt pc 197 then (bif Nat.blt pc 195 then (bif Nat.blt pc 193 then (bif Nat.beq pc 190 then some (.getfield 55, 3, 9, 2, 896, .null) else none) else
        (bif Nat.beq pc 193 then some (.iload 6, 2, 6, 0, 0, mj_u) else none)) else
       (bif Nat.blt pc 196 then (bif Nat.beq pc 195 then some (.iaload, 1, 0, 0, 0, mj_u) else none) else
        (bif Nat.beq pc 196 then some (.i2l, 1, 0, 0, 0, mj_u) else none))) else
      (bif Nat.blt pc 201 then (bif Nat.blt pc 200 then (bif Nat.beq pc 197 then some (.invokestatic 185, 3, 193, 0, 1369, mj_u) else none) else
        (bif Nat.beq pc 200 then some (.lstore_n 1, 1, 1, 0, 0, mj_u) else none)) else
       (bif Nat.blt pc 202 then (bif Nat.beq pc 201 then some (.iconst 0, 1, 0, 0, 0, .int 0) else none) else
        (bif Nat.beq pc 202 then some (.istore 7, 2, 7, 0, 0, mj_u) else none)))) else
     (bif Nat.blt pc 211 then (bif Nat.blt pc 207 then (bif Nat.blt pc 206 then (bif Nat.beq pc 204 then some (.iload 7, 2, 7, 0, 0, mj_u) else none) else
        (bif Nat.beq pc 206 then some (.iconst 5, 1, 0, 0, 0, .int 5) else none)) else
       (bif Nat.blt pc 210 then (bif Nat.beq pc 207 then some (.if_icmp .ge 26, 3, 233, 0, 0, mj_u) else none) else
        (bif Nat.beq pc 210 then some (.lload_n 1, 1, 1, 0, 0, mj_u) else none))) else
      (bif Nat.blt pc 214 then (bif Nat.blt pc 212 then (bif Nat.beq pc 211 then some (.aload_n 0, 1, 0, 0, 0, mj_u) else none) else
        (bif Nat.beq pc 212 then some (.iload 6, 2, 6, 0, 0, mj_u) else none)) else
       (bif Nat.blt pc 216 then (bif Nat.beq pc 214 then some (.iload 7, 2, 7, 0, 0, mj_u) else none) else
        (bif Nat.blt pc 217 then (bif Nat.beq pc 216 then some (.aload_n 3, 1, 3, 0, 0, mj_u) else none) else
         (bif Nat.beq pc 217 then some (.aload 4, 2, 4, 0, 0, mj_u) else none)))))) else
    (bif Nat.blt pc 236 then (bif Nat.blt pc 227 then (bif Nat.blt pc 223 then (bif Nat.blt pc 222 then (bif Nat.beq pc 219 then some (.invokevirtual 139, 3, 150, 0, 1084, mj_u) else none) else
        (bif Nat.beq pc 222 then some (.i2l, 1, 0, 0, 0, mj_u) else none)) else
       (bif Nat.blt pc 226 then (bif Nat.beq pc 223 then some (.invokestatic 185, 3, 193, 0, 1369, mj_u) else none) else
        (bif Nat.beq pc 226 then some (.lstore_n 1, 1, 1, 0, 0, mj_u) else none))) else
      (bif Nat.blt pc 233 then (bif Nat.blt pc 230 then (bif Nat.beq pc 227 then some (.iinc 7 1, 3, 7, 0, 0, .int 1) else none) else
        (bif Nat.beq pc 230 then some (.goto (-26), 3, 204, 0, 0, mj_u) else none)) else
       (bif Nat.blt pc 234 then (bif Nat.beq pc 233 then some (.lload_n 1, 1, 1, 0, 0, mj_u) else none) else
        (bif Nat.beq pc 234 then some (.aload 5, 2, 5, 0, 0, mj_u) else none)))) else
     (bif Nat.blt pc 243 then (bif Nat.blt pc 239 then (bif Nat.blt pc 238 then (bif Nat.beq pc 236 then some (.iload 6, 2, 6, 0, 0, mj_u) else none) else
        (bif Nat.beq pc 238 then some (.iaload, 1, 0, 0, 0, mj_u) else none)) else
       (bif Nat.blt pc 240 then (bif Nat.beq pc 239 then some (.i2l, 1, 0, 0, 0, mj_u) else none) else
        (bif Nat.beq pc 240 then some (.invokestatic 185, 3, 193, 0, 1369, mj_u) else none))) else
      (bif Nat.blt pc 247 then (bif Nat.blt pc 244 then (bif Nat.beq pc 243 then some (.lstore_n 1, 1, 1, 0, 0, mj_u) else none) else
        (bif Nat.beq pc 244 then some (.iinc 6 1, 3, 6, 0, 0, .int 1) else none)) else
       (bif Nat.blt pc 250 then (bif Nat.beq pc 247 then some (.goto (-74), 3, 173, 0, 0, mj_u) else none) else
        (bif Nat.blt pc 251 then (bif Nat.beq pc 250 then some (.lload_n 1, 1, 1, 0, 0, mj_u) else none) else
         (bif Nat.beq pc 251 then some (.lreturn, 1, 0, 0, 0, mj_u) else none))))))))
def m_M_digest : mj_M := (192, prog_11_method_48_code, 8, (Option.some Jvm.ClassFile.FieldType.long), 10, 0, 1367, 1365, 1366, 55, 252, k_M_digest)
/-- WatershedMapModel.add(JJ)J static -/
def k_M_add : Nat → Option mj_I := fun pc =>
  bif Nat.blt pc 5 then (bif Nat.blt pc 1 then (bif Nat.beq pc 0 then some (.lload_n 0, 1, 0, 0, 0, mj_u) else none) else
   (bif Nat.blt pc 4 then (bif Nat.beq pc 1 then some (.ldc2_w 181, 3, 0, 0, 1372, .long 31) else none) else
    (bif Nat.beq pc 4 then some (.lmul, 1, 0, 0, 0, mj_u) else none))) else
  (bif Nat.blt pc 6 then (bif Nat.beq pc 5 then some (.lload_n 2, 1, 2, 0, 0, mj_u) else none) else
   (bif Nat.blt pc 7 then (bif Nat.beq pc 6 then some (.ladd, 1, 0, 0, 0, mj_u) else none) else
    (bif Nat.beq pc 7 then some (.lreturn, 1, 0, 0, 0, mj_u) else none)))
def m_M_add : mj_M := (193, prog_11_method_47_code, 4, (Option.some Jvm.ClassFile.FieldType.long), 10, 2, 1371, 1370, 0, 55, 8, k_M_add)
end
section
/-! THE PURE MACHINE: configurations (pc, locals, stack, cells, how many cells and slots are new), a step of an instruction as a function, runs of several steps along given branches; 'mj_G': from this configuration the machine comes to its end. Locals are a dense list, mj_u where nothing is known. References are places in the list of cells. -/
abbrev mj_Cl : Type := (FieldType × vp_A) ⊕ (Nat × List Value)
abbrev mj_H : Type := List mj_Cl
abbrev mj_S : Type := Nat × List Value × List Value × mj_H × Nat × Nat
def mj_clr (L : List Value) (i : Nat) : List Value := match i with
  | 0 => L
  | k + 1 => match L[k]? with
    | some w => if w.category = 2 then L.set k mj_u else L
    | none => L
def mj_put1 (L : List Value) (i : Nat) (v : Value) : List Value := (mj_clr L i).set i v
def mj_put2 (L : List Value) (i : Nat) (v : Value) : List Value := ((mj_clr L i).set (i + 1) mj_u).set i v
def mj_isB : Instr → Bool
  | .ifCond _ _ => true
  | .if_icmp _ _ => true
  | _ => false
def mj_c1 : Jvm.ClassFile.Cond → Int32 → Prop
  | .eq, x => x = 0
  | .ne, x => ¬ x = 0
  | .lt, x => x < 0
  | .ge, x => 0 ≤ x
  | .gt, x => 0 < x
  | .le, x => x ≤ 0
def mj_c2 : Jvm.ClassFile.Cond → Int32 → Int32 → Prop
  | .eq, x, y => x = y
  | .ne, x, y => ¬ x = y
  | .lt, x, y => x < y
  | .ge, x, y => y ≤ x
  | .gt, x, y => y < x
  | .le, x, y => x ≤ y
def mj_step (RC RS : Nat) (i : mj_I) (d : Bool) (g : mj_S) : Option (Option Prop × mj_S) :=
  match g, i with
  | (pc, L, st, h, cc, cs), (ins, _, a, b, _, v) =>
  match ins with
  | .iconst _ => some (none, (pc + 1, L, v :: st, h, cc, cs))
  | .bipush _ => some (none, (pc + 2, L, v :: st, h, cc, cs))
  | .sipush _ => some (none, (pc + 3, L, v :: st, h, cc, cs))
  | .ldc _ => match v with | .int x => some (none, (pc + 2, L, .int x :: st, h, cc, cs)) | _ => none
  | .ldc2_w _ => some (none, (pc + 3, L, v :: st, h, cc, cs))
  | .lconst _ => some (none, (pc + 1, L, v :: st, h, cc, cs))
  | .dconst _ => some (none, (pc + 1, L, v :: st, h, cc, cs))
  | .i2d => match st with | .int x :: r => some (none, (pc + 1, L, .double (FP.i2d x) :: r, h, cc, cs)) | _ => none
  | .ddiv => match st with | .double y :: .double x :: r => some (some (vf_n64 (FP.ddiv x y)), (pc + 1, L, .double (FP.ddiv x y) :: r, h, cc, cs)) | _ => none
  | .dcmp op => match st with | .double y :: .double x :: r => some (none, (pc + 1, L, .int (Op.cmpValue (FP.dcmp x y) op) :: r, h, cc, cs)) | _ => none
  | .iload _ => match L[a]? with | some (.int x) => some (none, (pc + 2, L, .int x :: st, h, cc, cs)) | _ => none
  | .iload_n _ => match L[a]? with | some (.int x) => some (none, (pc + 1, L, .int x :: st, h, cc, cs)) | _ => none
  | .lload _ => match L[a]? with | some (.long x) => some (none, (pc + 2, L, .long x :: st, h, cc, cs)) | _ => none
  | .lload_n _ => match L[a]? with | some (.long x) => some (none, (pc + 1, L, .long x :: st, h, cc, cs)) | _ => none
  | .dload _ => match L[a]? with | some (.double x) => some (none, (pc + 2, L, .double x :: st, h, cc, cs)) | _ => none
  | .aload _ => match L[a]? with | some (.ref x) => some (none, (pc + 2, L, .ref x :: st, h, cc, cs)) | _ => none
  | .aload_n _ => match L[a]? with | some (.ref x) => some (none, (pc + 1, L, .ref x :: st, h, cc, cs)) | _ => none
  | .istore _ => match st with | .int x :: r => some (none, (pc + 2, mj_put1 L a (.int x), r, h, cc, cs)) | _ => none
  | .istore_n _ => match st with | .int x :: r => some (none, (pc + 1, mj_put1 L a (.int x), r, h, cc, cs)) | _ => none
  | .astore _ => match st with | .ref x :: r => some (none, (pc + 2, mj_put1 L a (.ref x), r, h, cc, cs)) | _ => none
  | .astore_n _ => match st with | .ref x :: r => some (none, (pc + 1, mj_put1 L a (.ref x), r, h, cc, cs)) | _ => none
  | .lstore _ => match st with | .long x :: r => some (none, (pc + 2, mj_put2 L a (.long x), r, h, cc, cs)) | _ => none
  | .lstore_n _ => match st with | .long x :: r => some (none, (pc + 1, mj_put2 L a (.long x), r, h, cc, cs)) | _ => none
  | .dstore _ => match st with | .double x :: r => some (none, (pc + 2, mj_put2 L a (.double x), r, h, cc, cs)) | _ => none
  | .iinc _ _ => match L[a]?, v with | some (.int x), .int n => some (none, (pc + 3, mj_put1 L a (.int (x + n)), st, h, cc, cs)) | _, _ => none
  | .iadd => match st with | .int y :: .int x :: r => some (none, (pc + 1, L, .int (x + y) :: r, h, cc, cs)) | _ => none
  | .isub => match st with | .int y :: .int x :: r => some (none, (pc + 1, L, .int (x - y) :: r, h, cc, cs)) | _ => none
  | .imul => match st with | .int y :: .int x :: r => some (none, (pc + 1, L, .int (x * y) :: r, h, cc, cs)) | _ => none
  | .iand => match st with | .int y :: .int x :: r => some (none, (pc + 1, L, .int (x &&& y) :: r, h, cc, cs)) | _ => none
  | .ixor => match st with | .int y :: .int x :: r => some (none, (pc + 1, L, .int (x ^^^ y) :: r, h, cc, cs)) | _ => none
  | .ishr => match st with | .int y :: .int x :: r => some (none, (pc + 1, L, .int (x >>> (y &&& 31)) :: r, h, cc, cs)) | _ => none
  | .idiv => match st with | .int y :: .int x :: r => some (some (¬ y = 0), (pc + 1, L, .int (x / y) :: r, h, cc, cs)) | _ => none
  | .irem => match st with | .int y :: .int x :: r => some (some (¬ y = 0), (pc + 1, L, .int (x - x / y * y) :: r, h, cc, cs)) | _ => none
  | .ineg => match st with | .int x :: r => some (none, (pc + 1, L, .int (-x) :: r, h, cc, cs)) | _ => none
  | .i2l => match st with | .int x :: r => some (none, (pc + 1, L, .long x.toInt64 :: r, h, cc, cs)) | _ => none
  | .ladd => match st with | .long y :: .long x :: r => some (none, (pc + 1, L, .long (x + y) :: r, h, cc, cs)) | _ => none
  | .lmul => match st with | .long y :: .long x :: r => some (none, (pc + 1, L, .long (x * y) :: r, h, cc, cs)) | _ => none
  | .lcmp => match st with | .long y :: .long x :: r => some (none, (pc + 1, L, .int (lg_cmp x y) :: r, h, cc, cs)) | _ => none
  | .dup => match st with
    | .int x :: r => some (none, (pc + 1, L, .int x :: .int x :: r, h, cc, cs))
    | .ref x :: r => some (none, (pc + 1, L, .ref x :: .ref x :: r, h, cc, cs))
    | _ => none
  | .dup2 => match st with
    | .int x :: .ref y :: r => some (none, (pc + 1, L, .int x :: .ref y :: .int x :: .ref y :: r, h, cc, cs))
    | _ => none
  | .pop => match st with
    | .int _ :: r => some (none, (pc + 1, L, r, h, cc, cs))
    | .ref _ :: r => some (none, (pc + 1, L, r, h, cc, cs))
    | _ => none
  | .ifCond c _ => match st with | .int x :: r => (match d with | true => some (some (mj_c1 c x), (a, L, r, h, cc, cs)) | false => some (some (¬ mj_c1 c x), (pc + 3, L, r, h, cc, cs))) | _ => none
  | .if_icmp c _ => match st with | .int y :: .int x :: r => (match d with | true => some (some (mj_c2 c x y), (a, L, r, h, cc, cs)) | false => some (some (¬ mj_c2 c x y), (pc + 3, L, r, h, cc, cs))) | _ => none
  | .goto _ => some (none, (a, L, st, h, cc, cs))
  | .iaload => match st with
    | .int x :: .ref q :: r => (match h[q]? with | some (.inl (.int, N, .inl f)) => some (some (vp_in x N), (pc + 1, L, .int (f x.toNatClampNeg) :: r, h, cc, cs)) | _ => none)
    | _ => none
  | .baload => match st with
    | .int x :: .ref q :: r => (match h[q]?, Nat.ble mj_NE q with | some (.inl (.boolean, N, .inl f)), true => some (some (vp_in x N), (pc + 1, L, .int (f x.toNatClampNeg) :: r, h, cc, cs)) | _, _ => none)
    | _ => none
  | .laload => match st with
    | .int x :: .ref q :: r => (match h[q]?, Nat.ble mj_NE q with | some (.inl (.long, N, .inr (.inl f))), true => some (some (vp_in x N), (pc + 1, L, .long (f x.toNatClampNeg) :: r, h, cc, cs)) | _, _ => none)
    | _ => none
  | .iastore => match st with
    | .int z :: .int x :: .ref q :: r => (match h[q]?, Nat.ble mj_NE q with | some (.inl (.int, N, .inl f)), true => some (some (vp_in x N), (pc + 1, L, r, h.set q (.inl (.int, N, .inl (upd f x.toNatClampNeg z))), cc, cs)) | _, _ => none)
    | _ => none
  | .bastore => match st with
    | .int z :: .int x :: .ref q :: r => (match h[q]?, Nat.ble mj_NE q with | some (.inl (.boolean, N, .inl f)), true => some (some (vp_in x N), (pc + 1, L, r, h.set q (.inl (.boolean, N, .inl (upd f x.toNatClampNeg (vp_nar .boolean z)))), cc, cs)) | _, _ => none)
    | _ => none
  | .lastore => match st with
    | .long z :: .int x :: .ref q :: r => (match h[q]?, Nat.ble mj_NE q with | some (.inl (.long, N, .inr (.inl f))), true => some (some (vp_in x N), (pc + 1, L, r, h.set q (.inl (.long, N, .inr (.inl (vp_updL f x.toNatClampNeg z)))), cc, cs)) | _, _ => none)
    | _ => none
  | .arraylength => match st with
    | .ref q :: r => (match h[q]? with | some (.inl (.int, N, .inl _)) => some (none, (pc + 1, L, .int (Int32.ofNat N) :: r, h, cc, cs)) | _ => none)
    | _ => none
  | .getstatic _ => some (none, (pc + 3, L, .ref a :: st, h, cc, cs))
  | .getfield _ => match st with
    | .ref q :: r => (match h[q]?, Nat.ble mj_NE q with
      | some (.inr (ci, fs)), true => (match Nat.beq ci a, fs[b]? with | true, some w => some (none, (pc + 3, L, w :: r, h, cc, cs)) | _, _ => none)
      | _, _ => none)
    | _ => none
  | .putfield _ => match st with
    | w :: .ref q :: r => (match h[q]?, Nat.ble mj_NE q with
      | some (.inr (ci, fs)), true => (match Nat.beq ci a, Nat.blt b fs.length, v, w with
        | true, true, .int _, .int y => some (none, (pc + 3, L, r, h.set q (.inr (ci, fs.set b (.int y))), cc, cs))
        | true, true, .null, .ref y => some (none, (pc + 3, L, r, h.set q (.inr (ci, fs.set b (.ref y))), cc, cs))
        | _, _, _, _ => none)
      | _, _ => none)
    | _ => none
  | .newarray ty => match st, ty with
    | .int n :: r, .int => some (some (¬ n < 0 ∧ n.toNatClampNeg ≤ 1000000 ∧ cc + 1 ≤ RC ∧ cs + n.toNatClampNeg ≤ RS), (pc + 2, L, .ref h.length :: r, h ++ [.inl (.int, n.toNatClampNeg, .inl (fun _ => 0))], cc + 1, cs + n.toNatClampNeg))
    | .int n :: r, .boolean => some (some (¬ n < 0 ∧ n.toNatClampNeg ≤ 1000000 ∧ cc + 1 ≤ RC ∧ cs + n.toNatClampNeg ≤ RS), (pc + 2, L, .ref h.length :: r, h ++ [.inl (.boolean, n.toNatClampNeg, .inl (fun _ => 0))], cc + 1, cs + n.toNatClampNeg))
    | .int n :: r, .long => some (some (¬ n < 0 ∧ n.toNatClampNeg ≤ 1000000 ∧ cc + 1 ≤ RC ∧ cs + n.toNatClampNeg ≤ RS), (pc + 2, L, .ref h.length :: r, h ++ [.inl (.long, n.toNatClampNeg, .inr (.inl (fun _ => 0)))], cc + 1, cs + n.toNatClampNeg))
    | _, _ => none
  | .new _ => match mj_df[a]? with
    | some fs => some (some (cc + 1 ≤ RC ∧ cs + fs.length ≤ RS), (pc + 3, L, .ref h.length :: st, h ++ [.inr (a, fs)], cc + 1, cs + fs.length))
    | none => none
  | _ => none
def mj_and : Option Prop → Prop → Prop
  | none, q => q
  | some p, q => p ∧ q
def mj_isE : Instr → Bool
  | .ireturn => true
  | .lreturn => true
  | .dreturn => true
  | .areturn => true
  | .return_ => true
  | .athrow => true
  | .invokevirtual _ => true
  | .invokespecial _ => true
  | .invokestatic _ => true
  | .tableswitch _ _ _ _ => true
  | _ => false
/-- come to the row 'stop', or, where that is 9999, to a call or a return -/
def mj_hit (C : Nat → Option mj_I) (stop pc : Nat) : Bool := match Nat.beq stop 9999 with
  | false => Nat.beq pc stop
  | true => (match C pc with | some i => mj_isE i.1 | none => false)
/-- as many steps as it takes to come to 'stop' along the branches ds -/
def mj_run (C : Nat → Option mj_I) (RC RS stop : Nat) : Nat → List Bool → mj_S → Option (Prop × mj_S)
  | 0, _, _ => none
  | n + 1, ds, g => match C g.1 with
    | none => none
    | some i => match mj_isB i.1, ds with
      | true, [] => none
      | true, d :: ds' => (match mj_step RC RS i d g with
        | none => none
        | some (p, g') => (match mj_hit C stop g'.1, ds' with
          | true, [] => some (mj_and p True, g')
          | _, _ => (match mj_run C RC RS stop n ds' g' with
            | none => none
            | some (q, g2) => some (mj_and p q, g2))))
      | false, ds => (match mj_step RC RS i true g with
        | none => none
        | some (p, g') => (match mj_hit C stop g'.1, ds with
          | true, [] => some (mj_and p True, g')
          | _, _ => (match mj_run C RC RS stop n ds g' with
            | none => none
            | some (q, g2) => some (mj_and p q, g2))))
/-- where an instruction's own words stand in the tables, and what its numbers mean -/
def mj_okI (own : String) (ini : Bool) (cc : ByteArray) (pc : Nat) (i : mj_I) : Bool := match i with
  | (ins, len, a, b, w, v) => decide (decode cc pc = .ok (ins, len)) && (match ins with
  | .iconst n => len == 1 && decide (v = .int (Int32.ofInt n))
  | .bipush n => len == 2 && decide (v = .int (Int8.ofInt n).toInt32)
  | .sipush n => len == 3 && decide (v = .int (Int16.ofInt n).toInt32)
  | .lconst n => len == 1 && decide (v = .long (Int64.ofNat (n : Nat)))
  | .dconst n => len == 1 && decide (n = 0 ∧ v = .double FP.dconst0)
  | .ldc idx => len == 2 && (match v with | .int x => decide (lw_tbl[w]? = some (Cond.constant own idx x)) | _ => true)
  | .ldc2_w idx => len == 3 && (match v with | .long x => decide (lw_tbl[w]? = some (Cond.constantLong own idx x)) | _ => false)
  | .iload k => len == 2 && a == k
  | .iload_n k => len == 1 && a == (k : Nat)
  | .lload k => len == 2 && a == k
  | .lload_n k => len == 1 && a == (k : Nat)
  | .dload k => len == 2 && a == k
  | .aload k => len == 2 && a == k
  | .aload_n k => len == 1 && a == (k : Nat)
  | .istore k => len == 2 && a == k
  | .istore_n k => len == 1 && a == (k : Nat)
  | .astore k => len == 2 && a == k
  | .astore_n k => len == 1 && a == (k : Nat)
  | .lstore k => len == 2 && a == k
  | .lstore_n k => len == 1 && a == (k : Nat)
  | .dstore k => len == 2 && a == k
  | .iinc k n => len == 3 && a == k && decide (v = .int (Int32.ofInt n))
  | .ifCond _ off => len == 3 && decide ((pc : Int) + off = (a : Int))
  | .if_icmp _ off => len == 3 && decide ((pc : Int) + off = (a : Int))
  | .goto off => len == 3 && decide ((pc : Int) + off = (a : Int))
  | .getstatic idx => len == 3 && (match mj_st[a]? with
    | some (C, n, d) => (match b with | 0 => decide (lw_tbl[w]? = some (Cond.fieldLink own idx C n d)) | _ => mj_nest.any (fun z => match z with | .fieldLinkNest o i C' n' d' _ => decide (o = own ∧ i = idx ∧ C' = C ∧ n' = n ∧ d' = d) | _ => false))
    | none => false)
  | .getfield idx => len == 3 && (match mj_cl[a]? with | some (C, T, N) => decide (b < N) && decide (lw_tbl[w]? = some (Cond.fieldLink own idx (T b).1 (T b).2.1 (T b).2.2.1)) | none => false)
  | .putfield idx => len == 3 && (match mj_cl[a]? with | some (C, T, N) => decide (b < N) && decide (lw_tbl[w]? = some (Cond.fieldLink own idx (T b).1 (T b).2.1 (T b).2.2.1)) && (!(T b).2.2.2 || (ini && decide (own = (T b).1))) && (match v, parseFieldDescriptor (T b).2.2.1 with | .int _, some .int => true | .null, some (.object _) => true | .null, some (.array _) => true | _, _ => false) | none => false)
  | .newarray ty => len == 2 && decide (newarray.typeOf ty ∈ mj_tyl)
  | .iaload => len == 1 && decide (FieldType.int ∈ mj_tyl)
  | .iastore => len == 1 && decide (FieldType.int ∈ mj_tyl)
  | .baload => len == 1 && decide (FieldType.boolean ∈ mj_tyl)
  | .bastore => len == 1 && decide (FieldType.boolean ∈ mj_tyl)
  | .laload => len == 1 && decide (FieldType.long ∈ mj_tyl)
  | .lastore => len == 1 && decide (FieldType.long ∈ mj_tyl)
  | .arraylength => len == 1 && decide (FieldType.int ∈ mj_tyl)
  | .new idx => len == 3 && (match mj_cl[a]?, mj_df[a]?, mj_np[a]? with | some (C, T, N), some fs, some (p1, p2) => decide (lw_tbl[w]? = some (Cond.classLink own idx C)) && decide (lw_tbl[p1]? = some (Cond.instantiable C N)) && decide (lw_tbl[p2]? = some (Cond.initialized C)) && decide (fs.length = N) && (List.range N).all (fun j => decide ((parseFieldDescriptor (T j).2.2.1).map defaultValue = fs[j]?)) | _, none, _ => true | _, _, _ => false)
  | .invokevirtual _ => len == 3
  | .invokespecial _ => len == 3
  | .invokestatic _ => len == 3
  | _ => len == 1 || len == 3 || decide (4 < len))
/-- a store's place is among the locals; rows of one byte are one byte long; no text is loaded -/
def mj_fitL (nL : Nat) (i : mj_I) : Bool := match i with
  | (ins, len, a, _, _, v) => match ins with
  | .istore _ => decide (a < nL)
  | .istore_n _ => decide (a < nL)
  | .astore _ => decide (a < nL)
  | .astore_n _ => decide (a < nL)
  | .lstore _ => decide (a + 1 < nL)
  | .lstore_n _ => decide (a + 1 < nL)
  | .dstore _ => decide (a + 1 < nL)
  | .iinc _ _ => decide (a < nL)
  | .iadd => len == 1
  | .isub => len == 1
  | .imul => len == 1
  | .iand => len == 1
  | .ixor => len == 1
  | .ishr => len == 1
  | .ladd => len == 1
  | .lmul => len == 1
  | .lcmp => len == 1
  | .idiv => len == 1
  | .irem => len == 1
  | .ineg => len == 1
  | .i2l => len == 1
  | .i2d => len == 1
  | .ddiv => len == 1
  | .dcmp _ => len == 1
  | .dup => len == 1
  | .dup2 => len == 1
  | .pop => len == 1
  | _ => true
end
section
/-! A STEP OF THE PURE MACHINE IS THE MACHINE'S -/
def mj_tbl : List Cond := lw_tbl.filter goodWord
theorem mj_in {w : Cond} {p : Nat} (h : lw_tbl[p]? = some w) (hg : goodWord w = true) : w ∈ mj_tbl := List.mem_filter.mpr ⟨List.mem_of_getElem? h, hg⟩
abbrev mM_cc (M : mj_M) : ByteArray := M.2.1
abbrev mM_nl (M : mj_M) : Nat := M.2.2.1
abbrev mM_ret (M : mj_M) : Option FieldType := M.2.2.2.1
abbrev mM_own (M : mj_M) : String := mj_cn.getD M.2.2.2.2.1 ""
abbrev mM_np (M : mj_M) : Nat := M.2.2.2.2.2.1
abbrev mM_p1 (M : mj_M) : Nat := M.2.2.2.2.2.2.1
abbrev mM_p2 (M : mj_M) : Nat := M.2.2.2.2.2.2.2.1
abbrev mM_p3 (M : mj_M) : Nat := M.2.2.2.2.2.2.2.2.1
abbrev mM_p4 (M : mj_M) : Nat := M.2.2.2.2.2.2.2.2.2.1
abbrev mM_len (M : mj_M) : Nat := M.2.2.2.2.2.2.2.2.2.2.1
abbrev mM_y (M : mj_M) : MethodName := mj_ys.getD M.1 ⟨"", "", ""⟩
def mj_cd (M : mj_M) (pc : Nat) : Option mj_I := match Nat.blt pc (mM_len M) with
  | true => M.2.2.2.2.2.2.2.2.2.2.2 pc
  | false => none
def mj_ini (M : mj_M) : Bool := decide ((mM_y M).name = "<init>")
/-- what a method's rows say, checked by program -/
def mj_okM (M : mj_M) : Bool := (List.range (mM_len M)).all (fun pc => match mj_cd M pc with
  | none => true
  | some i => mj_okI (mM_own M) (mj_ini M) (mM_cc M) pc i)
theorem mj_okM_at {M : mj_M} (h : mj_okM M = true) {pc : Nat} {i : mj_I} (hi : mj_cd M pc = some i) : mj_okI (mM_own M) (mj_ini M) (mM_cc M) pc i = true := by
  have hl : pc < mM_len M := by
    unfold mj_cd at hi
    split at hi
    · rename_i h1
      exact Nat.blt_eq.mp h1
    · cases hi
  have h1 := List.all_eq_true.mp h pc (List.mem_range.mpr hl)
  rw [hi] at h1
  exact h1
def mj_okF (M : mj_M) : Bool := (List.range (mM_len M)).all (fun pc => match mj_cd M pc with
  | none => true
  | some i => mj_fitL (mM_nl M) i)
theorem mj_okF_at {M : mj_M} (h : mj_okF M = true) {pc : Nat} {i : mj_I} (hi : mj_cd M pc = some i) : mj_fitL (mM_nl M) i = true := by
  have hl : pc < mM_len M := by
    unfold mj_cd at hi
    split at hi
    · rename_i h1
      exact Nat.blt_eq.mp h1
    · cases hi
  have h1 := List.all_eq_true.mp h pc (List.mem_range.mpr hl)
  rw [hi] at h1
  exact h1
/-! the classes' fields -/
def mj_fty (T : u_T) (k : Nat) : FieldType := (parseFieldDescriptor (T k).2.2.1).getD .int
def mj_okC (q : vw_C) (ps : List Nat) : Bool := (List.range q.2.2).all (fun k => (match ps[k]? with | some p => decide (lw_tbl[p]? = some (u_lay q.1 q.2.1 k)) | none => false) && (parseFieldDescriptor (q.2.1 k).2.2.1).isSome) && (List.range q.2.2).all (fun a => (List.range q.2.2).all (fun b => a == b || decide ((q.2.1 a).2.1 ≠ (q.2.1 b).2.1)))
theorem mj_okCs : (mj_cl.zip mj_lp).all (fun z => mj_okC z.1 z.2) = true ∧ mj_cl.length = mj_lp.length := by decide +kernel
theorem mj_layGood (C : String) (T : u_T) (k : Nat) : goodWord (u_lay C T k) = true := by
  unfold u_lay
  split <;> rfl
theorem mj_cls {ci : Nat} {C : String} {T : u_T} {N : Nat} (h : mj_cl[ci]? = some (C, T, N)) : (∀ w ∈ u_ws C T N, w ∈ mj_tbl) ∧ (∀ k, k < N → parseFieldDescriptor (T k).2.2.1 = some (mj_fty T k)) ∧ (∀ a, a < N → ∀ b, b < N → a ≠ b → (T a).2.1 ≠ (T b).2.1) := by
  obtain ⟨h0, hlen⟩ := mj_okCs
  have hci : ci < mj_lp.length := by rw [← hlen]; exact (List.getElem?_eq_some_iff.mp h).1
  have hz : (mj_cl.zip mj_lp)[ci]? = some ((C, T, N), mj_lp[ci]) := List.getElem?_zip_eq_some.mpr ⟨h, List.getElem?_eq_getElem hci⟩
  have h1 := List.all_eq_true.mp h0 _ (List.mem_of_getElem? hz)
  generalize mj_lp[ci] = ps at h1
  simp only [mj_okC, Bool.and_eq_true] at h1
  obtain ⟨h2, h3⟩ := h1
  refine ⟨fun w hw => ?_, fun k hk => ?_, fun a ha b hb hab => ?_⟩
  · obtain ⟨k, hk, rfl⟩ := List.mem_map.mp hw
    have h4 := List.all_eq_true.mp h2 k hk
    simp only [Bool.and_eq_true] at h4
    obtain ⟨h5, -⟩ := h4
    split at h5
    · exact mj_in (of_decide_eq_true h5) (mj_layGood C T k)
    · cases h5
  · have h4 := List.all_eq_true.mp h2 k (List.mem_range.mpr hk)
    simp only [Bool.and_eq_true] at h4
    obtain ⟨-, h5⟩ := h4
    obtain ⟨ty, ht⟩ := Option.isSome_iff_exists.mp h5
    rw [mj_fty, ht]
    rfl
  · have h4 := List.all_eq_true.mp (List.all_eq_true.mp h3 a (List.mem_range.mpr ha)) b (List.mem_range.mpr hb)
    simp only [Bool.or_eq_true, beq_iff_eq, decide_eq_true_eq] at h4
    exact h4.resolve_left hab
/-! what a configuration's parts are on the machine -/
def mj_cv (σ : Nat → Nat) : Value → Value
  | .ref i => .ref (σ i)
  | v => v
def mj_ca (σ : Nat → Nat) (a : vp_A) : vp_A := match a.2 with
  | .inr (.inr (.inr (.inr f))) => (a.1, .inr (.inr (.inr (.inr (fun j => (f j).map σ)))))
  | _ => a
def mj_cc (σ : Nat → Nat) (cT : FieldType → ClassId) : mj_Cl → va_E
  | .inl (ty, a) => .inl (cT ty, mj_ca σ a)
  | .inr (ci, fs) => .inr (ci, fs.map (mj_cv σ))
def mj_ext (σ : Nat → Nat) (base : Nat) (s : State) (i : Nat) (c : mj_Cl) (H : Heap) : Prop := match c with
  | .inl (ty, N, .inl f) => va_T ty (σ i) N (fun j => .int (f j)) (fun q => base ≤ q) s H
  | .inr (9999, _) => True
  | _ => False
/-- a cell of which nothing is known -/
def mj_junk : mj_Cl → Bool
  | .inr (9999, _) => true
  | _ => false
def mj_at (σ : Nat → Nat) (D : va_G) (cT : FieldType → ClassId) (base : Nat) (s : State) (i : Nat) (c : mj_Cl) (H : Heap) : Prop := match Nat.ble mj_NE i with
  | true => (mj_junk c = false → va_at D mj_cl (σ i, mj_cc σ cT c) H) ∧ σ i < H.size
  | false => mj_ext σ base s i c H
def mj_R (σ : Nat → Nat) (D : va_G) (cT : FieldType → ClassId) (base : Nat) (s : State) (h : mj_H) (H : Heap) (locs : List Loc) : Prop :=
  (∀ (i : Nat) (c : mj_Cl), h[i]? = some c → mj_at σ D cT base s i c H) ∧ H.size + mj_NE = base + h.length ∧ mj_NE ≤ h.length ∧ va_S (fun q => base ≤ q) s.heap H locs
abbrev mj_tys (cT : FieldType → ClassId) : List (ClassId × FieldType) := mj_tyl.map (fun t => (cT t, t))
theorem mj_tyAt {cT : FieldType → ClassId} {ty : FieldType} (h : ty ∈ mj_tyl) : ∃ k : Nat, (mj_tys cT)[k]? = some (cT ty, ty) := by
  obtain ⟨k, hk⟩ := List.getElem?_of_mem h
  exact ⟨k, by rw [List.getElem?_map, hk]; rfl⟩
def mj_E (σ : Nat → Nat) (D : va_G) (cT : FieldType → ClassId) (base : Nat) (U : State) : Prop :=
  va_K D mj_cl (mj_tys cT) U ∧ (∀ w ∈ mj_nest, va_Nw w U) ∧ (∀ (i : Nat) (q : String × String × String), mj_st[i]? = some q → va_Z q.1 q.2.1 q.2.2 (.ref (σ i)) (fun q => base ≤ q) U U.heap) ∧ base ≤ U.heap.size ∧ (∀ i, Nat.ble mj_NE i = true → σ i = base + (i - mj_NE))
def mj_has (σ : Nat → Nat) (ls : Array Slot) (nL : Nat) (L : List Value) : Prop := ls.size = nL ∧ lv_wf ls ∧ ∀ (i : Nat) (v : Value), L[i]? = some v → v ≠ mj_u → ls[i]? = some (.val (mj_cv σ v))
abbrev mj_K : Type := Program × Launch × Env × Room × State × MethodId × Array Value × List Frame × Method × Code × (State → Prop) × (Nat → Nat) × va_G × (FieldType → ClassId) × Nat
def mj_G (κ : mj_K) (g : mj_S) : Prop := match κ with
  | (p, l, e, R, s, m, args, below, meth, c, Q, σ, D, cT, base) =>
    ∀ (H : Heap) (locs : List Loc) (ls : Array Slot), mj_R σ D cT base s g.2.2.2.1 H locs → mj_has σ ls c.maxLocals g.2.1 → W p l e R s m args below meth c H locs g.2.2.2.2.1 g.2.2.2.2.2 Q (F0 m g.1 ls (g.2.2.1.map (mj_cv σ)))
def mj_X (M : mj_M) (RC RS d : Nat) (κ : mj_K) : Prop := match κ with
  | (p, _, _, R, s, m, args, _, meth, c, _, σ, D, cT, base) =>
    p.tables.exec = Jvm.exec ∧ c.code = mM_cc M ∧ c.maxLocals = mM_nl M ∧ s.vm.findClass (mM_own M) = some m.cls ∧ (∀ w ∈ mj_tbl, w.before args s = true) ∧ mj_E σ D cT base s ∧ (mj_ini M = true → meth.name = "<init>") ∧ RC ≤ R.cells ∧ RS ≤ R.slots ∧ d ≤ R.frames ∧ 64 * d ≤ R.locals
theorem mj_cat (σ : Nat → Nat) (v : Value) : (mj_cv σ v).category = v.category := by cases v <;> rfl
theorem mj_cv_u (σ : Nat → Nat) : mj_cv σ mj_u = mj_u := rfl
/-! locals -/
theorem mj_has.at {σ : Nat → Nat} {ls : Array Slot} {nL : Nat} {L : List Value} (h : mj_has σ ls nL L) {i : Nat} {v : Value} (hi : L[i]? = some v) (hv : v ≠ mj_u) : ls[i]? = some (.val (mj_cv σ v)) := h.2.2 i v hi hv
theorem mj_clr_at {L : List Value} {i j : Nat} {v : Value} (h : (mj_clr L i)[j]? = some v) (hv : v ≠ mj_u) : L[j]? = some v ∧ ¬ (j + 1 = i ∧ v.category = 2) := by
  unfold mj_clr at h
  split at h
  · exact ⟨h, fun q => by omega⟩
  · rename_i k
    split at h
    · rename_i w hw
      split at h
      · rename_i hc
        rw [List.getElem?_set] at h
        split at h
        · split at h
          · exact absurd (Option.some.inj h).symm hv
          · cases h
        · rename_i hk
          exact ⟨h, fun q => hk (by omega)⟩
      · rename_i hc
        refine ⟨h, fun q => ?_⟩
        have : j = k := by omega
        subst this
        rw [hw] at h
        exact hc (Option.some.inj h ▸ q.2)
    · rename_i hw
      refine ⟨h, fun q => ?_⟩
      have : j = k := by omega
      subst this
      rw [hw] at h
      cases h
theorem mj_store1 {σ : Nat → Nat} {ls : Array Slot} {nL : Nat} {L : List Value} (h : mj_has σ ls nL L) {i : Nat} (hi : i < nL) {v : Value} (hc : v.category = 1) : ∃ ls', storeLocals ls i (mj_cv σ v) = some ls' ∧ mj_has σ ls' nL (mj_put1 L i v) := by
  obtain ⟨hs, hw, hl⟩ := h
  have hc' : (mj_cv σ v).category = 1 := (mj_cat σ v).trans hc
  obtain ⟨ls', e, h'⟩ := lv_store1 (l := []) ⟨hs, hw, fun q hq => absurd hq List.not_mem_nil⟩ hi hc'
  refine ⟨ls', e, h'.1, h'.2.1, fun j w hj hwu => ?_⟩
  unfold mj_put1 at hj
  rw [List.getElem?_set] at hj
  split at hj
  · rename_i hij
    subst hij
    split at hj
    · have : v = w := Option.some.inj hj
      subst this
      exact h'.2.2 (i, mj_cv σ v) List.mem_cons_self
    · cases hj
  · rename_i hij
    obtain ⟨h1, h2⟩ := mj_clr_at hj hwu
    obtain ⟨l2, e2, h3⟩ := lv_store1 (l := [(j, mj_cv σ w)]) ⟨hs, hw, fun q hq => by rw [List.mem_singleton.mp hq]; exact hl j w h1 hwu⟩ hi hc'
    cases e.symm.trans e2
    refine h3.2.2 (j, mj_cv σ w) (List.mem_cons_of_mem _ (List.mem_filter.mpr ⟨List.mem_cons_self, ?_⟩))
    simp only [Bool.and_eq_true, Bool.not_eq_true', beq_eq_false_iff_ne, ne_eq, Bool.and_eq_false_iff, mj_cat]
    exact ⟨fun q => hij q.symm, by
      by_cases q : j + 1 = i
      · exact Or.inr fun z => h2 ⟨q, z⟩
      · exact Or.inl q⟩
theorem mj_store2 {σ : Nat → Nat} {ls : Array Slot} {nL : Nat} {L : List Value} (h : mj_has σ ls nL L) {i : Nat} (hi : i + 1 < nL) {v : Value} (hc : v.category = 2) : ∃ ls', storeLocals ls i (mj_cv σ v) = some ls' ∧ mj_has σ ls' nL (mj_put2 L i v) := by
  obtain ⟨hs, hw, hl⟩ := h
  have hc' : (mj_cv σ v).category = 2 := (mj_cat σ v).trans hc
  obtain ⟨ls', e, h'⟩ := lv_store2 (l := []) ⟨hs, hw, fun q hq => absurd hq List.not_mem_nil⟩ hi hc'
  refine ⟨ls', e, h'.1, h'.2.1, fun j w hj hwu => ?_⟩
  unfold mj_put2 at hj
  rw [List.getElem?_set] at hj
  split at hj
  · rename_i hij
    subst hij
    split at hj
    · have : v = w := Option.some.inj hj
      subst this
      exact h'.2.2 (i, mj_cv σ v) List.mem_cons_self
    · cases hj
  · rename_i hij
    rw [List.getElem?_set] at hj
    split at hj
    · split at hj
      · exact absurd (Option.some.inj hj).symm hwu
      · cases hj
    · rename_i hij2
      obtain ⟨h1, h2⟩ := mj_clr_at hj hwu
      obtain ⟨l2, e2, h3⟩ := lv_store2 (l := [(j, mj_cv σ w)]) ⟨hs, hw, fun q hq => by rw [List.mem_singleton.mp hq]; exact hl j w h1 hwu⟩ hi hc'
      cases e.symm.trans e2
      refine h3.2.2 (j, mj_cv σ w) (List.mem_cons_of_mem _ (List.mem_filter.mpr ⟨List.mem_cons_self, ?_⟩))
      simp only [Bool.and_eq_true, Bool.not_eq_true', beq_eq_false_iff_ne, ne_eq, Bool.and_eq_false_iff, mj_cat]
      exact ⟨fun q => hij q.symm, fun q => hij2 q.symm, by
        by_cases q : j + 1 = i
        · exact Or.inr fun z => h2 ⟨q, z⟩
        · exact Or.inl q⟩
/-! cells -/
theorem mj_ext.kept {σ : Nat → Nat} {base : Nat} {s : State} {i : Nat} {c : mj_Cl} {H H1 : Heap} (h : mj_ext σ base s i c H) (hq : ∀ a : Nat, a < H.size → ¬ base ≤ a → H1[a]? = H[a]?) : mj_ext σ base s i c H1 := by
  unfold mj_ext at h ⊢
  split at h
  · exact h.kept hq
  · trivial
  · exact h
theorem mj_at.own {σ : Nat → Nat} {D : va_G} {cT : FieldType → ClassId} {base : Nat} {s : State} {i : Nat} {c : mj_Cl} {H : Heap} (hi : Nat.ble mj_NE i = true) (hj : mj_junk c = false) (h : mj_at σ D cT base s i c H) : va_at D mj_cl (σ i, mj_cc σ cT c) H := by
  unfold mj_at at h
  rw [hi] at h
  exact h.1 hj
theorem mj_notJunk {ci : Nat} {fs : List Value} {C : vw_C} (h : mj_cl[ci]? = some C) : mj_junk (.inr (ci, fs)) = false := by
  unfold mj_junk
  split
  · rename_i e
    cases e
    have h1 := (List.getElem?_eq_some_iff.mp h).1
    exact absurd h1 (by decide +kernel)
  · rfl
theorem mj_at.mk {σ : Nat → Nat} {D : va_G} {cT : FieldType → ClassId} {base : Nat} {s : State} {i : Nat} {c : mj_Cl} {H : Heap} (hi : Nat.ble mj_NE i = true) (h : va_at D mj_cl (σ i, mj_cc σ cT c) H) : mj_at σ D cT base s i c H := by
  unfold mj_at
  rw [hi]
  exact ⟨fun _ => h, h.lt⟩
theorem mj_R.put {σ : Nat → Nat} {D : va_G} {cT : FieldType → ClassId} {base : Nat} {s : State} {h : mj_H} {H H1 : Heap} {locs : List Loc} {q k : Nat} {c : mj_Cl} (hσ : ∀ i, Nat.ble mj_NE i = true → σ i = base + (i - mj_NE)) (hR : mj_R σ D cT base s h H locs) (hq : Nat.ble mj_NE q = true) (hc : va_at D mj_cl (σ q, mj_cc σ cT c) H1) (z : H1.size = H.size) (oq : ∀ x, x ≠ σ q → H1[x]? = H[x]?) : mj_R σ D cT base s (h.set q c) H1 (locs ++ [⟨σ q, k⟩]) := by
  obtain ⟨h1, h2, h3, h4⟩ := hR
  have hb : base ≤ σ q := by rw [hσ q hq]; omega
  refine ⟨fun i c' hi => ?_, by rw [z, List.length_set]; exact h2, by rw [List.length_set]; exact h3, h4.put z oq hb⟩
  rw [List.getElem?_set] at hi
  split at hi
  · rename_i e
    subst e
    split at hi
    · cases hi
      exact mj_at.mk hq hc
    · cases hi
  · rename_i ne
    have h5 := h1 i c' hi
    unfold mj_at at h5 ⊢
    split
    · rename_i hb2
      rw [hb2] at h5
      refine ⟨fun hj => va_at.kept (h5.1 hj) (oq _ ?_), by rw [z]; exact h5.2⟩
      show σ i ≠ σ q
      rw [hσ i hb2, hσ q hq]
      have := Nat.le_of_ble_eq_true hb2
      have := Nat.le_of_ble_eq_true hq
      omega
    · rename_i hb2
      rw [hb2] at h5
      exact mj_ext.kept h5 fun a _ ha => oq a fun e => ha (e ▸ hb)
theorem mj_R.push {σ : Nat → Nat} {D : va_G} {cT : FieldType → ClassId} {base : Nat} {s : State} {h : mj_H} {H H1 : Heap} {locs : List Loc} {c : mj_Cl} (hσ : ∀ i, Nat.ble mj_NE i = true → σ i = base + (i - mj_NE)) (hR : mj_R σ D cT base s h H locs) (hc : va_at D mj_cl (H.size, mj_cc σ cT c) H1) (z : H1.size = H.size + 1) (oq : ∀ x, x < H.size → H1[x]? = H[x]?) : mj_R σ D cT base s (h ++ [c]) H1 locs ∧ σ h.length = H.size := by
  obtain ⟨h1, h2, h3, h4⟩ := hR
  have hn : Nat.ble mj_NE h.length = true := Nat.ble_eq_true_of_le h3
  have hs : σ h.length = H.size := by rw [hσ _ hn]; omega
  refine ⟨⟨fun i c' hi => ?_, by rw [z, List.length_append, List.length_singleton]; omega, by rw [List.length_append]; omega, ⟨Nat.le_trans h4.1 (by omega), fun x g1 g2 => (oq x (Nat.lt_of_lt_of_le g1 h4.1)).trans (h4.2.1 x g1 g2), h4.2.2⟩⟩, hs⟩
  by_cases hl : i < h.length
  · rw [List.getElem?_append_left hl] at hi
    have h5 := h1 i c' hi
    unfold mj_at at h5 ⊢
    split
    · rename_i hb2
      rw [hb2] at h5
      exact ⟨fun hj => va_at.kept (h5.1 hj) (oq _ h5.2), by rw [z]; exact Nat.lt_succ_of_lt h5.2⟩
    · rename_i hb2
      rw [hb2] at h5
      exact mj_ext.kept h5 fun a ha _ => oq a ha
  · rw [List.getElem?_append_right (by omega)] at hi
    have hz : i - h.length < 1 := (List.getElem?_eq_some_iff.mp hi).1
    have e : i = h.length := by omega
    subst e
    rw [Nat.sub_self] at hi
    cases hi
    exact mj_at.mk hn (by rw [hs]; exact hc)
end
section
/-! THE STEPS, one by one -/
theorem mj_ni {x : Int32} : Value.int x ≠ mj_u := fun q => by unfold mj_u at q; cases q
theorem mj_nl {x : Int64} : Value.long x ≠ mj_u := fun q => by unfold mj_u at q; cases q
theorem mj_nd {x : UInt64} : Value.double x ≠ mj_u := fun q => by unfold mj_u at q; cases q
theorem mj_nr {x : Nat} : Value.ref x ≠ mj_u := fun q => by unfold mj_u at q; cases q
theorem mj_sg {D : va_G} {cl : List vw_C} {q : Nat} {e : va_E} {H : Heap} (h : va_at D cl (q, e) H) : va_P D cl [(q, e)] H := by
  intro k z hz
  match k, hz with
  | 0, hz => cases hz; exact h
  | k + 1, hz => simp at hz
theorem mj_arrc : (mj_tyl.zip mj_typ).all (fun z => decide (lw_tbl[z.2]? = some (Cond.arrayClass z.1))) = true ∧ mj_tyl.length = mj_typ.length := by decide +kernel
theorem mj_arr {ty : FieldType} (h : ty ∈ mj_tyl) : Cond.arrayClass ty ∈ mj_tbl := by
  obtain ⟨h0, hlen⟩ := mj_arrc
  obtain ⟨k, hk⟩ := List.getElem?_of_mem h
  have hl : k < mj_typ.length := by rw [← hlen]; exact (List.getElem?_eq_some_iff.mp hk).1
  have hz : (mj_tyl.zip mj_typ)[k]? = some (ty, mj_typ[k]) := List.getElem?_zip_eq_some.mpr ⟨hk, List.getElem?_eq_getElem hl⟩
  exact mj_in (of_decide_eq_true (List.all_eq_true.mp h0 _ (List.mem_of_getElem? hz))) rfl
section MW
variable {p : Program} {l : Launch} {e : Env} {R : Room} {s : State} {m : MethodId} {args : Array Value} {below : List Frame} {meth : Method} {c : Code} {H : Heap} {locs : List Loc} {cells slots : Nat} {Q : State → Prop}
variable {cc : ByteArray} {pc : Nat} {ls ls' : Array Slot} {rest : List Value}

theorem mw_istore (hexec : p.tables.exec = Jvm.exec) (hb : c.code = cc) {i : Nat} {x : Int32} (hdg : decode cc pc = .ok (.istore i, 2)) (e' : storeLocals ls (i : Nat) (.int x) = some ls')
    (k : W p l e R s m args below meth c H locs cells slots Q (F0 m (pc + 2) ls' rest)) : W p l e R s m args below meth c H locs cells slots Q (F0 m pc ls (.int x :: rest)) := by
  intro T hT X
  obtain ⟨t, a, b⟩ := k T hT X
  refine ⟨t, ?_, b⟩
  jvm_step X.here [X.here.top, ↓top_set X.here.top, hexec, hb, hdg, e']
  exact a
theorem mw_istore_n (hexec : p.tables.exec = Jvm.exec) (hb : c.code = cc) {i : Fin 4} {x : Int32} (hdg : decode cc pc = .ok (.istore_n i, 1)) (e' : storeLocals ls (i : Nat) (.int x) = some ls')
    (k : W p l e R s m args below meth c H locs cells slots Q (F0 m (pc + 1) ls' rest)) : W p l e R s m args below meth c H locs cells slots Q (F0 m pc ls (.int x :: rest)) := by
  intro T hT X
  obtain ⟨t, a, b⟩ := k T hT X
  refine ⟨t, ?_, b⟩
  jvm_step X.here [X.here.top, ↓top_set X.here.top, hexec, hb, hdg, e']
  exact a
theorem mw_astore (hexec : p.tables.exec = Jvm.exec) (hb : c.code = cc) {i : Nat} {x : Nat} (hdg : decode cc pc = .ok (.astore i, 2)) (e' : storeLocals ls (i : Nat) (.ref x) = some ls')
    (k : W p l e R s m args below meth c H locs cells slots Q (F0 m (pc + 2) ls' rest)) : W p l e R s m args below meth c H locs cells slots Q (F0 m pc ls (.ref x :: rest)) := by
  intro T hT X
  obtain ⟨t, a, b⟩ := k T hT X
  refine ⟨t, ?_, b⟩
  jvm_step X.here [X.here.top, ↓top_set X.here.top, hexec, hb, hdg, e', Value.isRef]
  exact a
theorem mw_astore_n (hexec : p.tables.exec = Jvm.exec) (hb : c.code = cc) {i : Fin 4} {x : Nat} (hdg : decode cc pc = .ok (.astore_n i, 1)) (e' : storeLocals ls (i : Nat) (.ref x) = some ls')
    (k : W p l e R s m args below meth c H locs cells slots Q (F0 m (pc + 1) ls' rest)) : W p l e R s m args below meth c H locs cells slots Q (F0 m pc ls (.ref x :: rest)) := by
  intro T hT X
  obtain ⟨t, a, b⟩ := k T hT X
  refine ⟨t, ?_, b⟩
  jvm_step X.here [X.here.top, ↓top_set X.here.top, hexec, hb, hdg, e', Value.isRef]
  exact a
theorem mw_lstore (hexec : p.tables.exec = Jvm.exec) (hb : c.code = cc) {i : Nat} {x : Int64} (hdg : decode cc pc = .ok (.lstore i, 2)) (e' : storeLocals ls (i : Nat) (.long x) = some ls')
    (k : W p l e R s m args below meth c H locs cells slots Q (F0 m (pc + 2) ls' rest)) : W p l e R s m args below meth c H locs cells slots Q (F0 m pc ls (.long x :: rest)) := by
  intro T hT X
  obtain ⟨t, a, b⟩ := k T hT X
  refine ⟨t, ?_, b⟩
  jvm_step X.here [X.here.top, ↓top_set X.here.top, hexec, hb, hdg, e']
  exact a
theorem mw_lstore_n (hexec : p.tables.exec = Jvm.exec) (hb : c.code = cc) {i : Fin 4} {x : Int64} (hdg : decode cc pc = .ok (.lstore_n i, 1)) (e' : storeLocals ls (i : Nat) (.long x) = some ls')
    (k : W p l e R s m args below meth c H locs cells slots Q (F0 m (pc + 1) ls' rest)) : W p l e R s m args below meth c H locs cells slots Q (F0 m pc ls (.long x :: rest)) := by
  intro T hT X
  obtain ⟨t, a, b⟩ := k T hT X
  refine ⟨t, ?_, b⟩
  jvm_step X.here [X.here.top, ↓top_set X.here.top, hexec, hb, hdg, e']
  exact a
theorem mw_dstore (hexec : p.tables.exec = Jvm.exec) (hb : c.code = cc) {i : Nat} {x : UInt64} (hdg : decode cc pc = .ok (.dstore i, 2)) (e' : storeLocals ls (i : Nat) (.double x) = some ls')
    (k : W p l e R s m args below meth c H locs cells slots Q (F0 m (pc + 2) ls' rest)) : W p l e R s m args below meth c H locs cells slots Q (F0 m pc ls (.double x :: rest)) := by
  intro T hT X
  obtain ⟨t, a, b⟩ := k T hT X
  refine ⟨t, ?_, b⟩
  jvm_step X.here [X.here.top, ↓top_set X.here.top, hexec, hb, hdg, e']
  exact a
theorem mw_iinc (hexec : p.tables.exec = Jvm.exec) (hb : c.code = cc) {i : Nat} {n : Int} {x : Int32} (hdg : decode cc pc = .ok (.iinc i n, 3)) (hg : ls[i]? = some (.val (.int x))) (e' : storeLocals ls i (.int (x + Int32.ofInt n)) = some ls')
    (k : W p l e R s m args below meth c H locs cells slots Q (F0 m (pc + 3) ls' rest)) : W p l e R s m args below meth c H locs cells slots Q (F0 m pc ls rest) := by
  intro T hT X
  obtain ⟨t, a, b⟩ := k T hT X
  refine ⟨t, ?_, b⟩
  jvm_step X.here [X.here.top, ↓top_set X.here.top, hexec, hb, hdg, hg, e']
  exact a
variable {D : va_G} {cl : List vw_C} {a : Nat} {tys : List (ClassId × FieldType)}
theorem mw_put (hexec : p.tables.exec = Jvm.exec) (hb : c.code = cc) {own C : String} {T : u_T} {N ci index : Nat} {Ts : List Cond} (hts : ∀ w ∈ Ts, w.before args s = true) (hin : ∀ w ∈ u_ws C T N, w ∈ Ts) (ty0 : Nat → FieldType) (hty : ∀ k, k < N → parseFieldDescriptor (T k).2.2.1 = some (ty0 k)) (hnm : ∀ a, a < N → ∀ b, b < N → a ≠ b → (T a).2.1 ≠ (T b).2.1) (hown : s.vm.findClass own = some m.cls) (hK : va_K D cl tys s) {fs : List Value} (hat : va_at D cl (a, .inr (ci, fs)) H) (hc : cl[ci]? = some (C, T, N)) (k : Nat) (hk : k < N) (hlink : (Cond.fieldLink own index (T k).1 (T k).2.1 (T k).2.2.1).before args s = true) (hfin : (T k).2.2.2 = true → meth.name = "<init>" ∧ own = (T k).1) {ty : FieldType} {v : Value} (hd : parseFieldDescriptor (T k).2.2.1 = some ty) (hn : narrow ty v = v) (hfit : fits ty v = true) (hl : k < fs.length)
    (hdg : decode cc pc = .ok (.putfield index, 3)) (kk : ∀ (H1 : Heap) (j : Nat), va_at D cl (a, .inr (ci, fs.set k v)) H1 → H1.size = H.size → (∀ q, q ≠ a → H1[q]? = H[q]?) → W p l e R s m args below meth c H1 (locs ++ [⟨a, j⟩]) cells slots Q (F0 m (pc + 3) ls rest)) : W p l e R s m args below meth c H locs cells slots Q (F0 m pc ls (v :: .ref a :: rest)) := by
  have hap := va_apart (own := own) hts hin ty0 hty hnm hK hc
  obtain ⟨r, h1, cell, q1, q2, q3, q4⟩ := hat
  have hr : r = (C, T, N) := Option.some.inj (h1.symm.trans hc)
  subst hr
  obtain ⟨hS, hfc, kC, hkC, hkind⟩ := hK.1 ci _ hc
  obtain ⟨cf, kf, fi, f, hi, hsl⟩ := hS k hk
  have hi' : s.fieldFound? (T k).1 (T k).2.1 (T k).2.2.1 = some (cf, kf, fi, f) := hi
  have hlay := hts _ (hin _ (u_in_lay hk))
  have hst := (u_facts hfc hkC (u_lays hts hin hk) hi).1
  have fin : ∀ (H' : Heap), H'[a]? = some (cell.setSlot f.slot v) → va_at D cl (a, .inr (ci, fs.set k v)) H' := fun H' e1 => by
    rw [hsl] at e1
    exact ⟨_, hc, t_OB.to (V := updV (vp_V fs) k v) ⟨_, e1, q2, q3, t_set q4 hap hk v⟩ (fun j _ => vp_updV_set hl v j)⟩
  unfold u_lay at hlay
  by_cases hF : (T k).2.2.2 = true
  · rw [if_pos hF] at hlay
    obtain ⟨hin2, hoC⟩ := hfin hF
    have hcf : m.cls = cf := by
      obtain ⟨_, _, c', _, _, _, -, -, hf', -, -, -, hown2, -⟩ := Cond.laysFinal_spec hlay
      have e1 : c' = cf := by have := hi.symm.trans hf'; simp at this; exact this.1.symm
      rw [← hoC] at hown2
      rw [← e1]; exact Option.some.inj (hown.symm.trans hown2)
    have h6 := u_fits hfc hkC hkind (Or.inr hlay) hi hd hn hfit
    refine W.putFinK hexec hb hown hlink hi' hst hcf hin2 (by rw [q2]; exact h6) q1 q3 (by rw [hsl]; exact k2_hasslot (q4 k hk)) rfl rfl hdg fun H' e1 e2 e3 => ?_
    exact kk H' _ (fin H' e1) e2 e3
  · rw [if_neg hF] at hlay
    have h6 := u_store hfc hkC hkind hlay hi hd hn hfit
    refine W.putK hexec hb (f := f) ⟨hown, hlink, ⟨_, _, _, hi'⟩, hst⟩ (by rw [q2]; exact h6) q1 q3 (by rw [hsl]; exact k2_hasslot (q4 k hk)) rfl rfl hdg fun H' e1 e2 e3 => ?_
    exact kk H' _ (fin H' e1) e2 e3
end MW
theorem mj_cellS {cA : ClassId} {N k : Nat} {f : Nat → Int32} {x : Int32} : (vp_cell cA (N, .inl f)).setSlot k (.int x) = vp_cell cA (N, .inl (upd f k x)) := by
  rw [vp_cell_i, vp_cell_i, arrV_store]
  congr 1
  funext q
  by_cases hq : q = k
  · subst hq
    simp [updV, upd]
  · simp [updV, upd, hq]
theorem mj_cellL {cA : ClassId} {N k : Nat} {f : Nat → Int64} {x : Int64} : (vp_cell cA (N, .inr (.inl f))).setSlot k (.long x) = vp_cell cA (N, .inr (.inl (vp_updL f k x))) := by
  rw [vp_cell_l, vp_cell_l, arrV_store]
  congr 1
  funext q
  by_cases hq : q = k
  · subst hq
    simp [updV, vp_updL]
  · simp [updV, vp_updL, hq]

set_option maxHeartbeats 4000000 in
theorem mj_sim {M : mj_M} {κ : mj_K} {RC RS dd : Nat} (hX : mj_X M RC RS dd κ) {pc : Nat} {L st : List Value} {h : mj_H} {cc cs : Nat} {i : mj_I} (hok : mj_okI (mM_own M) (mj_ini M) (mM_cc M) pc i = true) {d : Bool} {P : Option Prop} {g' : mj_S} (hnL : mj_fitL (mM_nl M) i = true) (hs : mj_step RC RS i d (pc, L, st, h, cc, cs) = some (P, g')) (hP : mj_and P True) (k : mj_G κ g') : mj_G κ (pc, L, st, h, cc, cs) := by
  obtain ⟨p, l, e, R, s, m, args, below, meth, c, Q, σ, D, cT, base⟩ := κ
  obtain ⟨hx, hb, hml, hown, hts, hE, hini, hRC, hRS, -, -⟩ := hX
  obtain ⟨hK, hN, hZ, hbase, hσ⟩ := hE
  obtain ⟨ins, len, a, b, w, v⟩ := i
  simp only [mj_okI, Bool.and_eq_true, decide_eq_true_eq] at hok
  obtain ⟨hdg, hok⟩ := hok
  cases ins <;> simp only [mj_step] at hs <;> (try (cases hs; done))
  case iconst n =>
    simp only [Bool.and_eq_true, beq_iff_eq, decide_eq_true_eq] at hok
    obtain ⟨rfl, rfl⟩ := hok
    cases hs
    intro H locs ls hR hl
    exact lv_iconst hx hb hdg rfl (k H locs ls hR hl)
  case bipush n =>
    simp only [Bool.and_eq_true, beq_iff_eq, decide_eq_true_eq] at hok
    obtain ⟨rfl, rfl⟩ := hok
    cases hs
    intro H locs ls hR hl
    exact lv_bipush hx hb hdg rfl (k H locs ls hR hl)
  case sipush n =>
    simp only [Bool.and_eq_true, beq_iff_eq, decide_eq_true_eq] at hok
    obtain ⟨rfl, rfl⟩ := hok
    cases hs
    intro H locs ls hR hl
    exact lv_sipush hx hb hdg rfl (k H locs ls hR hl)
  case lconst n =>
    simp only [Bool.and_eq_true, beq_iff_eq, decide_eq_true_eq] at hok
    obtain ⟨rfl, rfl⟩ := hok
    cases hs
    intro H locs ls hR hl
    exact lv_lconst hx hb hdg rfl (k H locs ls hR hl)
  case ldc idx =>
    simp only [Bool.and_eq_true, beq_iff_eq] at hok
    obtain ⟨rfl, hok⟩ := hok
    split at hs
    · rename_i x
      cases hs
      intro H locs ls hR hl
      exact lv_ldc hx hb hown (hts _ (mj_in (of_decide_eq_true hok) rfl)) hdg (k H locs ls hR hl)
    · cases hs
  case ldc2_w idx =>
    simp only [Bool.and_eq_true, beq_iff_eq] at hok
    obtain ⟨rfl, hok⟩ := hok
    split at hok
    · rename_i x
      cases hs
      intro H locs ls hR hl
      exact lv_ldc2 hx hb hown (hts _ (mj_in (of_decide_eq_true hok) rfl)) hdg (k H locs ls hR hl)
    · cases hok
  case iload kk =>
    simp only [Bool.and_eq_true, beq_iff_eq] at hok
    obtain ⟨rfl, rfl⟩ := hok
    split at hs
    · rename_i x hx1
      cases hs
      intro H locs ls hR hl
      exact lv_iload hx hb hdg (hl.at hx1 mj_ni) (k H locs ls hR hl)
    · cases hs
  case iload_n kk =>
    simp only [Bool.and_eq_true, beq_iff_eq] at hok
    obtain ⟨rfl, rfl⟩ := hok
    split at hs
    · rename_i x hx1
      cases hs
      intro H locs ls hR hl
      exact lv_iload_n hx hb hdg rfl (hl.at hx1 mj_ni) (k H locs ls hR hl)
    · cases hs
  case lload kk =>
    simp only [Bool.and_eq_true, beq_iff_eq] at hok
    obtain ⟨rfl, rfl⟩ := hok
    split at hs
    · rename_i x hx1
      cases hs
      intro H locs ls hR hl
      exact lv_lload hx hb hdg (hl.at hx1 mj_nl) (k H locs ls hR hl)
    · cases hs
  case lload_n kk =>
    simp only [Bool.and_eq_true, beq_iff_eq] at hok
    obtain ⟨rfl, rfl⟩ := hok
    split at hs
    · rename_i x hx1
      cases hs
      intro H locs ls hR hl
      exact lv_lload_n hx hb hdg rfl (hl.at hx1 mj_nl) (k H locs ls hR hl)
    · cases hs
  case dload kk =>
    simp only [Bool.and_eq_true, beq_iff_eq] at hok
    obtain ⟨rfl, rfl⟩ := hok
    split at hs
    · rename_i x hx1
      cases hs
      intro H locs ls hR hl
      exact lv_dload hx hb hdg (hl.at hx1 mj_nd) (k H locs ls hR hl)
    · cases hs
  case aload kk =>
    simp only [Bool.and_eq_true, beq_iff_eq] at hok
    obtain ⟨rfl, rfl⟩ := hok
    split at hs
    · rename_i x hx1
      cases hs
      intro H locs ls hR hl
      exact lv_aload hx hb hdg (hl.at hx1 mj_nr) (k H locs ls hR hl)
    · cases hs
  case aload_n kk =>
    simp only [Bool.and_eq_true, beq_iff_eq] at hok
    obtain ⟨rfl, rfl⟩ := hok
    split at hs
    · rename_i x hx1
      cases hs
      intro H locs ls hR hl
      exact lv_aload_n hx hb hdg rfl (hl.at hx1 mj_nr) (k H locs ls hR hl)
    · cases hs
  case istore kk =>
    simp only [Bool.and_eq_true, beq_iff_eq] at hok
    obtain ⟨rfl, rfl⟩ := hok
    split at hs
    · rename_i x r
      cases hs
      intro H locs ls hR hl
      obtain ⟨ls', e', hl'⟩ := mj_store1 hl (v := .int x) (by rw [hml]; exact of_decide_eq_true hnL) rfl
      exact mw_istore hx hb hdg e' (k H locs ls' hR hl')
    · cases hs
  case istore_n kk =>
    simp only [Bool.and_eq_true, beq_iff_eq] at hok
    obtain ⟨rfl, rfl⟩ := hok
    split at hs
    · rename_i x r
      cases hs
      intro H locs ls hR hl
      obtain ⟨ls', e', hl'⟩ := mj_store1 hl (v := .int x) (by rw [hml]; exact of_decide_eq_true hnL) rfl
      exact mw_istore_n hx hb hdg e' (k H locs ls' hR hl')
    · cases hs
  case astore kk =>
    simp only [Bool.and_eq_true, beq_iff_eq] at hok
    obtain ⟨rfl, rfl⟩ := hok
    split at hs
    · rename_i x r
      cases hs
      intro H locs ls hR hl
      obtain ⟨ls', e', hl'⟩ := mj_store1 hl (v := .ref x) (by rw [hml]; exact of_decide_eq_true hnL) rfl
      exact mw_astore hx hb hdg e' (k H locs ls' hR hl')
    · cases hs
  case astore_n kk =>
    simp only [Bool.and_eq_true, beq_iff_eq] at hok
    obtain ⟨rfl, rfl⟩ := hok
    split at hs
    · rename_i x r
      cases hs
      intro H locs ls hR hl
      obtain ⟨ls', e', hl'⟩ := mj_store1 hl (v := .ref x) (by rw [hml]; exact of_decide_eq_true hnL) rfl
      exact mw_astore_n hx hb hdg e' (k H locs ls' hR hl')
    · cases hs
  case lstore kk =>
    simp only [Bool.and_eq_true, beq_iff_eq] at hok
    obtain ⟨rfl, rfl⟩ := hok
    split at hs
    · rename_i x r
      cases hs
      intro H locs ls hR hl
      obtain ⟨ls', e', hl'⟩ := mj_store2 hl (v := .long x) (by rw [hml]; exact of_decide_eq_true hnL) rfl
      exact mw_lstore hx hb hdg e' (k H locs ls' hR hl')
    · cases hs
  case lstore_n kk =>
    simp only [Bool.and_eq_true, beq_iff_eq] at hok
    obtain ⟨rfl, rfl⟩ := hok
    split at hs
    · rename_i x r
      cases hs
      intro H locs ls hR hl
      obtain ⟨ls', e', hl'⟩ := mj_store2 hl (v := .long x) (by rw [hml]; exact of_decide_eq_true hnL) rfl
      exact mw_lstore_n hx hb hdg e' (k H locs ls' hR hl')
    · cases hs
  case dstore kk =>
    simp only [Bool.and_eq_true, beq_iff_eq] at hok
    obtain ⟨rfl, rfl⟩ := hok
    split at hs
    · rename_i x r
      cases hs
      intro H locs ls hR hl
      obtain ⟨ls', e', hl'⟩ := mj_store2 hl (v := .double x) (by rw [hml]; exact of_decide_eq_true hnL) rfl
      exact mw_dstore hx hb hdg e' (k H locs ls' hR hl')
    · cases hs
  case iinc kk n =>
    simp only [Bool.and_eq_true, beq_iff_eq, decide_eq_true_eq] at hok
    obtain ⟨⟨rfl, rfl⟩, rfl⟩ := hok
    split at hs
    · rename_i x n' hx1 hv
      cases hs
      cases hv
      intro H locs ls hR hl
      obtain ⟨ls', e', hl'⟩ := mj_store1 hl (v := .int (x + Int32.ofInt n)) (by rw [hml]; exact of_decide_eq_true hnL) rfl
      exact mw_iinc hx hb hdg (hl.at hx1 mj_ni) e' (k H locs ls' hR hl')
    · cases hs
  case iadd  =>
    split at hs
    · rename_i y x r
      cases hs
      cases (beq_iff_eq.mp hnL)
      intro H locs ls hR hl
      exact lv_iadd hx hb hdg (k H locs ls hR hl)
    · cases hs
  case isub  =>
    split at hs
    · rename_i y x r
      cases hs
      cases (beq_iff_eq.mp hnL)
      intro H locs ls hR hl
      exact lv_isub hx hb hdg (k H locs ls hR hl)
    · cases hs
  case imul  =>
    split at hs
    · rename_i y x r
      cases hs
      cases (beq_iff_eq.mp hnL)
      intro H locs ls hR hl
      exact lv_imul hx hb hdg (k H locs ls hR hl)
    · cases hs
  case iand  =>
    split at hs
    · rename_i y x r
      cases hs
      cases (beq_iff_eq.mp hnL)
      intro H locs ls hR hl
      exact lv_iand hx hb hdg (k H locs ls hR hl)
    · cases hs
  case ixor  =>
    split at hs
    · rename_i y x r
      cases hs
      cases (beq_iff_eq.mp hnL)
      intro H locs ls hR hl
      exact lv_ixor hx hb hdg (k H locs ls hR hl)
    · cases hs
  case ishr  =>
    split at hs
    · rename_i y x r
      cases hs
      cases (beq_iff_eq.mp hnL)
      intro H locs ls hR hl
      exact lv_ishr hx hb hdg (k H locs ls hR hl)
    · cases hs
  case ladd  =>
    split at hs
    · rename_i y x r
      cases hs
      cases (beq_iff_eq.mp hnL)
      intro H locs ls hR hl
      exact lv_ladd hx hb hdg (k H locs ls hR hl)
    · cases hs
  case lmul  =>
    split at hs
    · rename_i y x r
      cases hs
      cases (beq_iff_eq.mp hnL)
      intro H locs ls hR hl
      exact lv_lmul hx hb hdg (k H locs ls hR hl)
    · cases hs
  case lcmp  =>
    split at hs
    · rename_i y x r
      cases hs
      cases (beq_iff_eq.mp hnL)
      intro H locs ls hR hl
      exact W.lcmp hx hb hdg (k H locs ls hR hl)
    · cases hs
  case idiv  =>
    split at hs
    · rename_i y x r
      cases hs
      cases (beq_iff_eq.mp hnL)
      intro H locs ls hR hl
      exact lv_idiv hx hb hdg (And.left (show _ ∧ True from hP)) (k H locs ls hR hl)
    · cases hs
  case irem  =>
    split at hs
    · rename_i y x r
      cases hs
      cases (beq_iff_eq.mp hnL)
      intro H locs ls hR hl
      exact lv_irem hx hb hdg (And.left (show _ ∧ True from hP)) (k H locs ls hR hl)
    · cases hs
  case dconst n =>
    simp only [Bool.and_eq_true, beq_iff_eq, decide_eq_true_eq] at hok
    obtain ⟨rfl, rfl, rfl⟩ := hok
    cases hs
    intro H locs ls hR hl
    exact lv_dconst0 hx hb hdg (k H locs ls hR hl)
  case i2d  =>
    split at hs
    · rename_i x r
      cases hs
      cases (beq_iff_eq.mp hnL)
      intro H locs ls hR hl
      exact lv_i2d hx hb hdg (k H locs ls hR hl)
    · cases hs
  case ddiv  =>
    split at hs
    · rename_i y x r
      cases hs
      cases (beq_iff_eq.mp hnL)
      intro H locs ls hR hl
      exact lv_ddiv hx hb hdg (And.left (show _ ∧ True from hP)) (k H locs ls hR hl)
    · cases hs
  case dcmp op =>
    split at hs
    · rename_i y x r
      cases hs
      cases (beq_iff_eq.mp hnL)
      intro H locs ls hR hl
      exact lv_dcmp hx hb hdg (k H locs ls hR hl)
    · cases hs
  case ineg  =>
    split at hs
    · rename_i x r
      cases hs
      cases (beq_iff_eq.mp hnL)
      intro H locs ls hR hl
      exact lv_ineg hx hb hdg (k H locs ls hR hl)
    · cases hs
  case i2l  =>
    split at hs
    · rename_i x r
      cases hs
      cases (beq_iff_eq.mp hnL)
      intro H locs ls hR hl
      exact lv_i2l hx hb hdg rfl (k H locs ls hR hl)
    · cases hs
  case dup  =>
    split at hs
    · rename_i x r
      cases hs
      cases (beq_iff_eq.mp hnL)
      intro H locs ls hR hl
      exact lv_dup hx hb hdg rfl (k H locs ls hR hl)
    · rename_i x r
      cases hs
      cases (beq_iff_eq.mp hnL)
      intro H locs ls hR hl
      exact lv_dup hx hb hdg rfl (k H locs ls hR hl)
    · cases hs
  case dup2  =>
    split at hs
    · rename_i x y r
      cases hs
      cases (beq_iff_eq.mp hnL)
      intro H locs ls hR hl
      exact lv_dup2_11 hx hb hdg rfl rfl (k H locs ls hR hl)
    · cases hs
  case pop  =>
    split at hs
    · rename_i x r
      cases hs
      cases (beq_iff_eq.mp hnL)
      intro H locs ls hR hl
      exact lv_pop hx hb hdg rfl (k H locs ls hR hl)
    · rename_i x r
      cases hs
      cases (beq_iff_eq.mp hnL)
      intro H locs ls hR hl
      exact lv_pop hx hb hdg rfl (k H locs ls hR hl)
    · cases hs
  case ifCond co off =>
    simp only [Bool.and_eq_true, beq_iff_eq, decide_eq_true_eq] at hok
    obtain ⟨rfl, ht⟩ := hok
    split at hs
    · rename_i x r
      split at hs
      · cases hs
        have hp := And.left (show _ ∧ True from hP)
        intro H locs ls hR hl
        have k' := k H locs ls hR hl
        cases co
        · exact lv_if_eq hx hb hdg ht (fun _ => k') (fun z => absurd hp z)
        · exact lv_if_ne hx hb hdg ht (fun _ => k') (fun z => absurd hp (fun w => w z))
        · exact lv_if_lt hx hb hdg ht (fun _ => k') (fun z => absurd hp z)
        · exact lv_if_ge hx hb hdg ht (fun _ => k') (fun z => absurd hp z)
        · exact lv_if_gt hx hb hdg ht (fun _ => k') (fun z => absurd hp z)
        · exact lv_if_le hx hb hdg ht (fun _ => k') (fun z => absurd hp z)
      · cases hs
        have hp := And.left (show _ ∧ True from hP)
        intro H locs ls hR hl
        have k' := k H locs ls hR hl
        cases co
        · exact lv_if_eq hx hb hdg ht (fun z => absurd z hp) (fun _ => k')
        · exact lv_if_ne hx hb hdg ht (fun z => absurd z hp) (fun _ => k')
        · exact lv_if_lt hx hb hdg ht (fun z => absurd z hp) (fun _ => k')
        · exact lv_if_ge hx hb hdg ht (fun z => absurd z hp) (fun _ => k')
        · exact lv_if_gt hx hb hdg ht (fun z => absurd z hp) (fun _ => k')
        · exact lv_if_le hx hb hdg ht (fun z => absurd z hp) (fun _ => k')
    · cases hs
  case if_icmp co off =>
    simp only [Bool.and_eq_true, beq_iff_eq, decide_eq_true_eq] at hok
    obtain ⟨rfl, ht⟩ := hok
    split at hs
    · rename_i y x r
      split at hs
      · cases hs
        have hp := And.left (show _ ∧ True from hP)
        intro H locs ls hR hl
        have k' := k H locs ls hR hl
        cases co
        · exact lv_icmp_eq hx hb hdg ht (fun _ => k') (fun z => absurd hp z)
        · exact lv_icmp_ne hx hb hdg ht (fun _ => k') (fun z => absurd hp (fun w => w z))
        · exact lv_icmp_lt hx hb hdg ht (fun _ => k') (fun z => absurd hp z)
        · exact lv_icmp_ge hx hb hdg ht (fun _ => k') (fun z => absurd hp z)
        · exact lv_icmp_gt hx hb hdg ht (fun _ => k') (fun z => absurd hp z)
        · exact lv_icmp_le hx hb hdg ht (fun _ => k') (fun z => absurd hp z)
      · cases hs
        have hp := And.left (show _ ∧ True from hP)
        intro H locs ls hR hl
        have k' := k H locs ls hR hl
        cases co
        · exact lv_icmp_eq hx hb hdg ht (fun z => absurd z hp) (fun _ => k')
        · exact lv_icmp_ne hx hb hdg ht (fun z => absurd z hp) (fun _ => k')
        · exact lv_icmp_lt hx hb hdg ht (fun z => absurd z hp) (fun _ => k')
        · exact lv_icmp_ge hx hb hdg ht (fun z => absurd z hp) (fun _ => k')
        · exact lv_icmp_gt hx hb hdg ht (fun z => absurd z hp) (fun _ => k')
        · exact lv_icmp_le hx hb hdg ht (fun z => absurd z hp) (fun _ => k')
    · cases hs
  case goto off =>
    simp only [Bool.and_eq_true, beq_iff_eq, decide_eq_true_eq] at hok
    obtain ⟨rfl, ht⟩ := hok
    cases hs
    intro H locs ls hR hl
    exact lv_goto hx hb hdg ht (k H locs ls hR hl)
  case iaload  =>
    simp only [Bool.and_eq_true, beq_iff_eq, decide_eq_true_eq] at hok
    obtain ⟨rfl, hty⟩ := hok
    obtain ⟨t0, ht0⟩ := mj_tyAt (cT := cT) hty
    split at hs
    · rename_i x q r
      split at hs
      · rename_i N f hq
        cases hs
        have hin : vp_in x N := And.left (show _ ∧ True from hP)
        intro H locs ls hR hl
        have hat := hR.1 q _ hq
        unfold mj_at at hat
        split at hat
        · exact va_iald hx hb hK (mj_sg (hat.1 rfl)) 0 t0 rfl ht0 hin hdg (k H locs ls hR hl)
        · obtain ⟨cell, h1, h2, h3, h4, h5, h6, h7⟩ := hat
          have hlt : x.toNatClampNeg < N := Nat.not_le.mp fun q => hin (Or.inr q)
          have hin' : ¬ (x < 0 ∨ cell.slots.size ≤ x.toNatClampNeg) := by
            intro q
            rcases q with q | q
            · exact hin (Or.inl q)
            · omega
          exact W.iald hx hb h1 h2 h3 hin' (h6 _ hlt) rfl rfl hdg (k H locs ls hR hl)
      · cases hs
    · cases hs
  case baload  =>
    simp only [Bool.and_eq_true, beq_iff_eq, decide_eq_true_eq] at hok
    obtain ⟨rfl, hty⟩ := hok
    obtain ⟨t0, ht0⟩ := mj_tyAt (cT := cT) hty
    split at hs
    · rename_i x q r
      split at hs
      · rename_i N f hq hble
        cases hs
        have hin : vp_in x N := And.left (show _ ∧ True from hP)
        intro H locs ls hR hl
        have hat := mj_at.own hble rfl (hR.1 q _ hq)
        exact va_zald hx hb hK (mj_sg hat) 0 t0 rfl ht0 hin hdg (k H locs ls hR hl)
      · cases hs
    · cases hs
  case laload  =>
    simp only [Bool.and_eq_true, beq_iff_eq, decide_eq_true_eq] at hok
    obtain ⟨rfl, hty⟩ := hok
    obtain ⟨t0, ht0⟩ := mj_tyAt (cT := cT) hty
    split at hs
    · rename_i x q r
      split at hs
      · rename_i N f hq hble
        cases hs
        have hin : vp_in x N := And.left (show _ ∧ True from hP)
        intro H locs ls hR hl
        have hat := mj_at.own hble rfl (hR.1 q _ hq)
        exact va_lald hx hb hK (mj_sg hat) 0 t0 rfl ht0 hin hdg (k H locs ls hR hl)
      · cases hs
    · cases hs
  case iastore  =>
    simp only [Bool.and_eq_true, beq_iff_eq, decide_eq_true_eq] at hok
    obtain ⟨rfl, hty⟩ := hok
    obtain ⟨t0, ht0⟩ := mj_tyAt (cT := cT) hty
    split at hs
    · rename_i z x q r
      split at hs
      · rename_i N f hq hble
        cases hs
        have hin : vp_in x N := And.left (show _ ∧ True from hP)
        intro H locs ls hR hl
        have hat := mj_at.own hble rfl (hR.1 q _ hq)
        refine W.iast hx hb hat ((hK.2 t0 _ ht0).1 N (fun j => .int (f j))) (fun q => by cases q) (by show ¬ (x < 0 ∨ (arrV _ _ _).slots.size ≤ _); rw [arrV_size]; exact hin) rfl rfl hdg fun H1 e1 e2 e3 => ?_
        exact k H1 _ ls (hR.put hσ hble (by
            show H1[σ q]? = some (vp_cell _ _)
            rw [e1]
            exact congrArg some mj_cellS) e2 e3) hl
      · cases hs
    · cases hs
  case bastore  =>
    simp only [Bool.and_eq_true, beq_iff_eq, decide_eq_true_eq] at hok
    obtain ⟨rfl, hty⟩ := hok
    obtain ⟨t0, ht0⟩ := mj_tyAt (cT := cT) hty
    split at hs
    · rename_i z x q r
      split at hs
      · rename_i N f hq hble
        cases hs
        have hin : vp_in x N := And.left (show _ ∧ True from hP)
        intro H locs ls hR hl
        have hat := mj_at.own hble rfl (hR.1 q _ hq)
        refine W.zast hx hb hat ((hK.2 t0 _ ht0).1 N (fun j => .int (f j))) (fun q => by cases q) (by show ¬ (x < 0 ∨ (arrV _ _ _).slots.size ≤ _); rw [arrV_size]; exact hin) rfl rfl hdg fun H1 e1 e2 e3 => ?_
        exact k H1 _ ls (hR.put hσ hble (by
            show H1[σ q]? = some (vp_cell _ _)
            rw [e1]
            exact congrArg some mj_cellS) e2 e3) hl
      · cases hs
    · cases hs
  case lastore  =>
    simp only [Bool.and_eq_true, beq_iff_eq, decide_eq_true_eq] at hok
    obtain ⟨rfl, hty⟩ := hok
    obtain ⟨t0, ht0⟩ := mj_tyAt (cT := cT) hty
    split at hs
    · rename_i z x q r
      split at hs
      · rename_i N f hq hble
        cases hs
        have hin : vp_in x N := And.left (show _ ∧ True from hP)
        intro H locs ls hR hl
        have hat := mj_at.own hble rfl (hR.1 q _ hq)
        refine W.last hx hb hat ((hK.2 t0 _ ht0).1 N (fun j => .long (f j))) (fun q => by cases q) (by show ¬ (x < 0 ∨ (arrV _ _ _).slots.size ≤ _); rw [arrV_size]; exact hin) rfl rfl hdg fun H1 e1 e2 e3 => ?_
        exact k H1 _ ls (hR.put hσ hble (by
            show H1[σ q]? = some (vp_cell _ _)
            rw [e1]
            exact congrArg some mj_cellL) e2 e3) hl
      · cases hs
    · cases hs
  case arraylength  =>
    simp only [Bool.and_eq_true, beq_iff_eq, decide_eq_true_eq] at hok
    obtain ⟨rfl, hty⟩ := hok
    obtain ⟨t0, ht0⟩ := mj_tyAt (cT := cT) hty
    split at hs
    · rename_i q r
      split at hs
      · rename_i N f hq
        cases hs
        intro H locs ls hR hl
        have hat := hR.1 q _ hq
        unfold mj_at at hat
        split at hat
        · exact va_alen hx hb hK (mj_sg (hat.1 rfl)) 0 t0 rfl ht0 rfl hdg (k H locs ls hR hl)
        · obtain ⟨cell, h1, h2, h3, h4, h5, h6, h7⟩ := hat
          exact W.alen (n := Int32.ofNat N) hx hb h1 h2 h5 rfl rfl hdg (k H locs ls hR hl)
      · cases hs
    · cases hs
  case getstatic idx =>
    simp only [Bool.and_eq_true, beq_iff_eq] at hok
    obtain ⟨rfl, hok⟩ := hok
    cases hs
    split at hok
    · rename_i C n dd hq
      have hz := hZ a _ hq
      intro H locs ls hR hl
      split at hok
      · exact va_gets hx hb hz hR.2.2.2 hown (hts _ (mj_in (of_decide_eq_true hok) rfl)) (fun _ h => h) hdg (k H locs ls hR hl)
      · obtain ⟨z, hz1, hz2⟩ := List.any_eq_true.mp hok
        split at hz2
        · rename_i o i C' n' d' host
          obtain ⟨e1, e2, e3, e4, e5⟩ := of_decide_eq_true hz2
          subst e1; subst e2; subst e3; subst e4; subst e5
          exact va_getsN hx hb hz hR.2.2.2 hown (va_Nw.use rfl (hN _ hz1)) (fun _ h => h) hdg (k H locs ls hR hl)
        · cases hz2
    · cases hok
  case getfield idx =>
    simp only [Bool.and_eq_true, beq_iff_eq] at hok
    obtain ⟨rfl, hok⟩ := hok
    split at hok
    · rename_i C T N hc
      simp only [Bool.and_eq_true, decide_eq_true_eq] at hok
      obtain ⟨hbN, hw⟩ := hok
      split at hs
      · rename_i q r
        split at hs
        · rename_i ci fs hq hble
          split at hs
          · rename_i w' hci hfs
            cases hs
            have e1 : ci = a := Nat.eq_of_beq_eq_true hci
            subst e1
            intro H locs ls hR hl
            have hat := mj_at.own hble (mj_notJunk hc) (hR.1 q _ hq)
            exact va_get hx hb hts (mj_cls hc).1 hown hK (mj_sg hat) 0 rfl hc b hbN (hts _ (mj_in hw rfl)) (fun x hx => hx) (by rw [List.getElem?_map, hfs]; rfl) hdg (k H locs ls hR hl)
          · cases hs
        · cases hs
      · cases hs
    · cases hok
  case putfield idx =>
    simp only [Bool.and_eq_true, beq_iff_eq] at hok
    obtain ⟨rfl, hok⟩ := hok
    split at hok
    · rename_i C T N hc
      simp only [Bool.and_eq_true, decide_eq_true_eq] at hok
      obtain ⟨⟨⟨hbN, hw⟩, hfi⟩, hv⟩ := hok
      have hfin : (T b).2.2.2 = true → meth.name = "<init>" ∧ mM_own M = (T b).1 := fun hF => by
        rw [hF] at hfi
        simp only [Bool.not_true, Bool.false_or, Bool.and_eq_true, decide_eq_true_eq] at hfi
        exact ⟨hini hfi.1, hfi.2⟩
      split at hs
      · rename_i w' q r
        split at hs
        · rename_i ci fs hq hble
          split at hs
          · rename_i n0 y hci hl0
            cases hs
            have e1 : ci = a := Nat.eq_of_beq_eq_true hci
            subst e1
            intro H locs ls hR hl
            have hat := mj_at.own hble (mj_notJunk hc) (hR.1 q _ hq)
            split at hv
            · rename_i hd
              exact mw_put hx hb hts (mj_cls hc).1 (mj_fty T) (mj_cls hc).2.1 (mj_cls hc).2.2 hown hK hat hc b hbN (hts _ (mj_in hw rfl)) hfin hd rfl rfl (by rw [List.length_map]; exact Nat.blt_eq.mp hl0) hdg fun H1 j e1 e2 e3 => k H1 _ ls (hR.put hσ hble (by simpa only [mj_cc, List.map_set] using e1) e2 e3) hl
            · rename_i hv2 _
              cases hv2
            · rename_i hv2 _
              cases hv2
            · cases hv
          · rename_i y hci hl0
            cases hs
            have e1 : ci = a := Nat.eq_of_beq_eq_true hci
            subst e1
            intro H locs ls hR hl
            have hat := mj_at.own hble (mj_notJunk hc) (hR.1 q _ hq)
            split at hv
            · rename_i hv2 _
              cases hv2
            · rename_i hd
              exact mw_put hx hb hts (mj_cls hc).1 (mj_fty T) (mj_cls hc).2.1 (mj_cls hc).2.2 hown hK hat hc b hbN (hts _ (mj_in hw rfl)) hfin hd rfl rfl (by rw [List.length_map]; exact Nat.blt_eq.mp hl0) hdg fun H1 j e1 e2 e3 => k H1 _ ls (hR.put hσ hble (by simpa only [mj_cc, List.map_set] using e1) e2 e3) hl
            · rename_i hd
              exact mw_put hx hb hts (mj_cls hc).1 (mj_fty T) (mj_cls hc).2.1 (mj_cls hc).2.2 hown hK hat hc b hbN (hts _ (mj_in hw rfl)) hfin hd rfl rfl (by rw [List.length_map]; exact Nat.blt_eq.mp hl0) hdg fun H1 j e1 e2 e3 => k H1 _ ls (hR.put hσ hble (by simpa only [mj_cc, List.map_set] using e1) e2 e3) hl
            · cases hv
          · cases hs
        · cases hs
      · cases hs
    · cases hok
  case newarray ty =>
    simp only [Bool.and_eq_true, beq_iff_eq, decide_eq_true_eq] at hok
    obtain ⟨rfl, hty⟩ := hok
    obtain ⟨t0, ht0⟩ := mj_tyAt (cT := cT) hty
    split at hs
    · rename_i n r
      cases hs
      obtain ⟨hn, hN1, hc1, hs1⟩ := And.left (show _ ∧ True from hP)
      intro H locs ls hR hl
      refine va_newaK (atype := .int) hx hb (hts _ (mj_arr hty)) rfl hdg rfl hn rfl (by show _ * 4 ≤ 536870912; omega) (Nat.le_trans hc1 hRC) (Nat.le_trans hs1 hRS) rfl fun H1 cA e1 z1 o1 hAr hNm => ?_
      have hcA : cT .int = cA := by
        have h1 : s.vm.findClass ("[" ++ (FieldType.int).toString) = some (cT .int) := (hK.2 t0 _ ht0).2
        exact Option.some.inj (h1.symm.trans hNm)
      obtain ⟨hR', hs'⟩ := hR.push (H1 := H1) (c := .inl (.int, n.toNatClampNeg, .inl (fun _ => 0))) hσ (by rw [← hcA] at e1; exact e1) z1 o1
      have k' := k H1 locs ls hR' hl
      have e9 : mj_cv σ (.ref h.length) = .ref H.size := congrArg Value.ref hs'
      simp only [List.map_cons, e9] at k'
      exact k'
    · rename_i n r
      cases hs
      obtain ⟨hn, hN1, hc1, hs1⟩ := And.left (show _ ∧ True from hP)
      intro H locs ls hR hl
      refine va_newaK (atype := .boolean) hx hb (hts _ (mj_arr hty)) rfl hdg rfl hn rfl (by show _ * 1 ≤ 536870912; omega) (Nat.le_trans hc1 hRC) (Nat.le_trans hs1 hRS) rfl fun H1 cA e1 z1 o1 hAr hNm => ?_
      have hcA : cT .boolean = cA := by
        have h1 : s.vm.findClass ("[" ++ (FieldType.boolean).toString) = some (cT .boolean) := (hK.2 t0 _ ht0).2
        exact Option.some.inj (h1.symm.trans hNm)
      obtain ⟨hR', hs'⟩ := hR.push (H1 := H1) (c := .inl (.boolean, n.toNatClampNeg, .inl (fun _ => 0))) hσ (by rw [← hcA] at e1; exact e1) z1 o1
      have k' := k H1 locs ls hR' hl
      have e9 : mj_cv σ (.ref h.length) = .ref H.size := congrArg Value.ref hs'
      simp only [List.map_cons, e9] at k'
      exact k'
    · rename_i n r
      cases hs
      obtain ⟨hn, hN1, hc1, hs1⟩ := And.left (show _ ∧ True from hP)
      intro H locs ls hR hl
      refine va_newaK (atype := .long) hx hb (hts _ (mj_arr hty)) rfl hdg rfl hn rfl (by show _ * 8 ≤ 536870912; omega) (Nat.le_trans hc1 hRC) (Nat.le_trans hs1 hRS) rfl fun H1 cA e1 z1 o1 hAr hNm => ?_
      have hcA : cT .long = cA := by
        have h1 : s.vm.findClass ("[" ++ (FieldType.long).toString) = some (cT .long) := (hK.2 t0 _ ht0).2
        exact Option.some.inj (h1.symm.trans hNm)
      obtain ⟨hR', hs'⟩ := hR.push (H1 := H1) (c := .inl (.long, n.toNatClampNeg, .inr (.inl (fun _ => 0)))) hσ (by rw [← hcA] at e1; exact e1) z1 o1
      have k' := k H1 locs ls hR' hl
      have e9 : mj_cv σ (.ref h.length) = .ref H.size := congrArg Value.ref hs'
      simp only [List.map_cons, e9] at k'
      exact k'
    · cases hs
  case new idx =>
    simp only [Bool.and_eq_true, beq_iff_eq] at hok
    obtain ⟨rfl, hok⟩ := hok
    split at hok
    · rename_i C T N fs p1 p2 hc hdf hnp
      simp only [Bool.and_eq_true, decide_eq_true_eq] at hok
      obtain ⟨⟨⟨⟨hw, hi1⟩, hi2⟩, hlen⟩, hall⟩ := hok
      rw [hdf] at hs
      cases hs
      obtain ⟨hc1, hs1⟩ := And.left (show _ ∧ True from hP)
      intro H locs ls hR hl
      have hKn := hK.1 a _ hc
      rw [hlen] at hs1
      refine W.newcK hx hb hown (hts _ (mj_in hw rfl)) (hts _ (mj_in hi1 rfl)) (hts _ (mj_in hi2 rfl)) rfl hdg (Nat.le_trans hc1 hRC) (Nat.le_trans hs1 hRS) hKn.2.1 rfl fun H1 kC hkC e1 z1 o1 => ?_
      have hcell : va_at D mj_cl (H.size, mj_cc σ cT (.inr (a, fs))) H1 := by
        refine ⟨_, hc, (u_born (mj_fty T) hts (mj_cls hc).1 hKn hkC e1 (mj_cls hc).2.1).to fun j hj => ?_⟩
        have h1 := of_decide_eq_true (List.all_eq_true.mp hall j (List.mem_range.mpr hj))
        rw [(mj_cls hc).2.1 j hj] at h1
        have h2 : fs[j]? = some (defaultValue (mj_fty T j)) := h1.symm
        show defaultValue (mj_fty T j) = (fs.map (mj_cv σ)).getD j .null
        rw [List.getD_eq_getElem?_getD, List.getElem?_map, h2]
        show _ = mj_cv σ (defaultValue (mj_fty T j))
        cases mj_fty T j <;> rfl
      obtain ⟨hR', hs'⟩ := hR.push (H1 := H1) hσ hcell z1 o1
      have k' := k H1 locs ls hR' hl
      have e9 : mj_cv σ (.ref h.length) = .ref H.size := congrArg Value.ref hs'
      simp only [List.map_cons, e9, hlen] at k'
      exact k'
    · rename_i hdf
      rw [hdf] at hs
      cases hs
    · cases hok
/-- along a run -/
theorem mj_simR {M : mj_M} {κ : mj_K} {RC RS dd : Nat} (hX : mj_X M RC RS dd κ) (hok : mj_okM M = true) (hfl : mj_okF M = true) {stop : Nat} : ∀ (n : Nat) (ds : List Bool) (g g' : mj_S) (P : Prop), mj_run (mj_cd M) RC RS stop n ds g = some (P, g') → P → mj_G κ g' → mj_G κ g := by
  intro n
  induction n with
  | zero => intro ds g g' P h; cases h
  | succ n ih =>
    intro ds g g' P h hP k
    have key : ∀ (i : mj_I) (d : Bool) (p : Option Prop) (g1 : mj_S), mj_cd M g.1 = some i → mj_step RC RS i d g = some (p, g1) → mj_and p True → mj_G κ g1 → mj_G κ g := fun i d p g1 hi hs hp k1 => by
      obtain ⟨pc, L, st, hh, cc, cs⟩ := g
      exact mj_sim hX (mj_okM_at hok hi) (mj_okF_at hfl hi) hs hp k1
    have sp : ∀ (p : Option Prop) (q : Prop), mj_and p q → mj_and p True ∧ q := fun p q h => by
      cases p with
      | none => exact ⟨trivial, h⟩
      | some p => exact ⟨⟨h.1, trivial⟩, h.2⟩
    unfold mj_run at h
    split at h
    · cases h
    · rename_i i hi
      split at h
      · cases h
      · split at h
        · cases h
        · rename_i p g1 hs
          split at h
          · cases h
            exact key i _ p _ hi hs hP k
          · split at h
            · cases h
            · rename_i q g2 hr
              cases h
              obtain ⟨h1, h2⟩ := sp p q hP
              exact key i _ p g1 hi hs h1 (ih _ _ _ _ hr h2 k)
      · split at h
        · cases h
        · rename_i p g1 hs
          split at h
          · cases h
            exact key i _ p _ hi hs hP k
          · split at h
            · cases h
            · rename_i q g2 hr
              cases h
              obtain ⟨h1, h2⟩ := sp p q hP
              exact key i _ p g1 hi hs h1 (ih _ _ _ _ hr h2 k)
end
section
/-! CONTRACTS: what a method of the pure machine answers, and how it is called -/
def mj_wsM (M : mj_M) : List Cond := Cond.code (mM_y M) (mM_cc M) (mM_nl M) (mM_ret M) :: mj_tbl
abbrev mj_rm (d mc ms : Nat) : Room := { frames := d, cells := mc, slots := ms, locals := 64 * d }
def mj_R0 (σ : Nat → Nat) (D : va_G) (cT : FieldType → ClassId) (base : Nat) (s : State) (h : mj_H) (H : Heap) : Prop :=
  (∀ (i : Nat) (c : mj_Cl), h[i]? = some c → mj_at σ D cT base s i c H) ∧ H.size + mj_NE = base + h.length ∧ mj_NE ≤ h.length
def mj_Pc (σ : Nat → Nat) (D : va_G) (cT : FieldType → ClassId) (base : Nat) (as : List Value) (h : mj_H) : Array Value → State → Prop := fun v U => v = (as.map (mj_cv σ)).toArray ∧ mj_E σ D cT base U ∧ mj_R0 σ D cT base U h U.heap
def mj_Qc (σ : Nat → Nat) (D : va_G) (cT : FieldType → ClassId) (base : Nat) (r : Option Value) (h' : mj_H) : Array Value → State → Outcome → State → Prop := fun _ st o t => o = .returned (r.map (mj_cv σ)) ∧ mj_R0 σ D cT base t h' t.heap ∧ va_F (fun q => base ≤ q) st t
/-- from the cells h the method M, given 'as', answers r and leaves the cells h'; at most mc cells of ms slots are new; calls stand at most d deep -/
def mj_Ct (M : mj_M) (as : List Value) (h : mj_H) (r : Option Value) (h' : mj_H) (mc ms d : Nat) : Prop :=
  ∀ (l : Launch) (σ : Nat → Nat) (D : va_G) (cT : FieldType → ClassId) (base : Nat), Met l (mM_y M) (mj_wsM M) (mj_rm d mc ms) (mj_Pc σ D cT base as h) (mj_Qc σ D cT base r h') mc ms (fun q => base ≤ q)
def mj_okY (M : mj_M) : Bool := decide (lw_tbl[mM_p1 M]? = some (Cond.code (mM_y M) (mM_cc M) (mM_nl M) (mM_ret M))) && (decide (lw_tbl[mM_p2 M]? = some (Cond.instanceMethod (mM_y M))) || decide (lw_tbl[mM_p2 M]? = some (Cond.static (mM_y M)))) && decide (lw_tbl[mM_p4 M]? = some (Cond.initialized (mM_y M).cls)) && decide ((mM_y M).cls = mM_own M) && plainFor (mM_y M) && decide ((mM_y M).cls ≠ "java/lang/invoke/MethodHandle") && decide ((mM_y M).cls ≠ "java/lang/invoke/VarHandle") && decide ((parseMethodDescriptor (mM_y M).desc).map (fun d => d.parameters.length) = some (mM_np M)) && decide (mM_nl M ≤ 45)
def mj_okK (M : mj_M) : Bool := (List.range (mM_len M)).all (fun pc => match mj_cd M pc with
  | none => true
  | some (ins, _, a, b, w, _) => match ins with
    | .invokevirtual idx => decide (lw_tbl[w]? = some (Cond.methodLink (mM_own M) idx (mj_ys.getD a ⟨"", "", ""⟩))) || Nat.ble 1000 a
    | .invokestatic idx => (match a with
      | 1001 => decide (lw_tbl[w]? = some (Cond.methodLink (mM_own M) idx arraycopyName))
      | _ => decide (lw_tbl[w]? = some (Cond.methodLink (mM_own M) idx (mj_ys.getD a ⟨"", "", ""⟩))) || Nat.ble 1000 a)
    | .invokespecial idx => (match a, b with
      | 1000, _ => decide (lw_tbl[w]? = some (Cond.methodLink (mM_own M) idx objectInit))
      | _, 0 => decide (lw_tbl[w]? = some (Cond.methodLink (mM_own M) idx (mj_ys.getD a ⟨"", "", ""⟩))) || Nat.ble 1000 a
      | _, _ => mj_nest.any (fun z => match z with | .methodLinkNest o i y _ => decide (o = mM_own M ∧ i = idx ∧ y = mj_ys.getD a ⟨"", "", ""⟩) | _ => false))
    | _ => true)
def mj_okA (M : mj_M) : Bool := mj_okM M && mj_okF M && mj_okY M && mj_okK M
theorem mj_okA_M {M : mj_M} (h : mj_okA M = true) : mj_okM M = true := by
  simp only [mj_okA, Bool.and_eq_true] at h
  exact h.1.1.1
theorem mj_okA_F {M : mj_M} (h : mj_okA M = true) : mj_okF M = true := by
  simp only [mj_okA, Bool.and_eq_true] at h
  exact h.1.1.2
theorem mj_okA_Y {M : mj_M} (h : mj_okA M = true) : Cond.code (mM_y M) (mM_cc M) (mM_nl M) (mM_ret M) ∈ mj_tbl ∧ (lw_tbl[mM_p2 M]? = some (Cond.instanceMethod (mM_y M)) ∨ lw_tbl[mM_p2 M]? = some (Cond.static (mM_y M))) ∧ Cond.initialized (mM_y M).cls ∈ mj_tbl ∧ (mM_y M).cls = mM_own M ∧ plainFor (mM_y M) = true ∧ (mM_y M).cls ≠ "java/lang/invoke/MethodHandle" ∧ (mM_y M).cls ≠ "java/lang/invoke/VarHandle" ∧ (parseMethodDescriptor (mM_y M).desc).map (fun d => d.parameters.length) = some (mM_np M) ∧ mM_nl M ≤ 45 := by
  simp only [mj_okA, mj_okY, Bool.and_eq_true, Bool.or_eq_true, decide_eq_true_eq] at h
  obtain ⟨⟨⟨-, -⟩, ⟨⟨⟨⟨⟨⟨⟨⟨h1, h2⟩, h3⟩, h4⟩, h5⟩, h6⟩, h7⟩, h8⟩, h9⟩⟩, -⟩ := h
  exact ⟨mj_in h1 rfl, h2, mj_in h3 rfl, h4, h5, h6, h7, h8, h9⟩
/-- the row at pc, of a call -/
def mj_kat (M : mj_M) (pc : Nat) (i : mj_I) : Bool := match i with
  | (ins, _, a, b, w, _) => match ins with
    | .invokevirtual idx => decide (lw_tbl[w]? = some (Cond.methodLink (mM_own M) idx (mj_ys.getD a ⟨"", "", ""⟩))) || Nat.ble 1000 a
    | .invokestatic idx => (match a with
      | 1001 => decide (lw_tbl[w]? = some (Cond.methodLink (mM_own M) idx arraycopyName))
      | _ => decide (lw_tbl[w]? = some (Cond.methodLink (mM_own M) idx (mj_ys.getD a ⟨"", "", ""⟩))) || Nat.ble 1000 a)
    | .invokespecial idx => (match a, b with
      | 1000, _ => decide (lw_tbl[w]? = some (Cond.methodLink (mM_own M) idx objectInit))
      | _, 0 => decide (lw_tbl[w]? = some (Cond.methodLink (mM_own M) idx (mj_ys.getD a ⟨"", "", ""⟩))) || Nat.ble 1000 a
      | _, _ => mj_nest.any (fun z => match z with | .methodLinkNest o i y _ => decide (o = mM_own M ∧ i = idx ∧ y = mj_ys.getD a ⟨"", "", ""⟩) | _ => false))
    | _ => true
theorem mj_okA_K {M : mj_M} (h : mj_okA M = true) {pc : Nat} {i : mj_I} (hi : mj_cd M pc = some i) : mj_kat M pc i = true := by
  have hl : pc < mM_len M := by
    unfold mj_cd at hi
    split at hi
    · rename_i h1
      exact Nat.blt_eq.mp h1
    · cases hi
  simp only [mj_okA, Bool.and_eq_true] at h
  have h1 := List.all_eq_true.mp h.2 pc (List.mem_range.mpr hl)
  rw [hi] at h1
  exact h1
theorem mj_dec {M : mj_M} (h : mj_okA M = true) {pc : Nat} {i : mj_I} (hi : mj_cd M pc = some i) : decode (mM_cc M) pc = .ok (i.1, i.2.1) := by
  have h1 := mj_okM_at (mj_okA_M h) hi
  obtain ⟨ins, len, a, b, w, v⟩ := i
  simp only [mj_okI, Bool.and_eq_true, decide_eq_true_eq] at h1
  exact h1.1
theorem mj_good {ws : List Cond} (h : ∀ w ∈ ws, w ∈ mj_tbl) : GoodIn mj_tbl ws := fun w hw => ⟨h w hw, good_of_word (List.mem_filter.mp (h w hw)).2⟩
theorem mj_goodM {M : mj_M} (h : mj_okA M = true) : ∀ w ∈ mj_wsM M, w ∈ mj_tbl := fun w hw => (List.mem_cons.mp hw).elim (fun e => e ▸ (mj_okA_Y h).1) id
/-! moving what is known -/
theorem mj_warmN {w : Cond} (hw : w ∈ mj_nest) {s U : State} (hW : s.WarmedH U.vm) (h : va_Nw w s) : va_Nw w U := by
  have hk : mj_nest.all (fun z => match z with | .methodLinkNest _ _ _ _ => true | .fieldLinkNest _ _ _ _ _ _ => true | _ => false) = true := by decide +kernel
  have h1 := List.all_eq_true.mp hk w hw
  split at h1
  · exact va_Nw.warmM hW h
  · exact va_Nw.warmF hW h
  · cases h1
theorem mj_sameN {w : Cond} (hw : w ∈ mj_nest) {s U : State} (hV : s.vm = U.vm) (h : va_Nw w s) : va_Nw w U := by
  have hk : mj_nest.all (fun z => match z with | .methodLinkNest _ _ _ _ => true | .fieldLinkNest _ _ _ _ _ _ => true | _ => false) = true := by decide +kernel
  have h1 := List.all_eq_true.mp hk w hw
  split at h1
  · exact va_Nw.same rfl hV h
  · exact va_Nw.same rfl hV h
  · cases h1
section MV
variable {σ : Nat → Nat} {D : va_G} {cT : FieldType → ClassId} {base : Nat} {s U : State} {h : mj_H} {H : Heap} {locs : List Loc}
theorem mj_ext.moved {i : Nat} {c : mj_Cl} (hvm : s.vm.Alike U.vm) (hc : mj_ext σ base s i c H) : mj_ext σ base U i c H := by
  unfold mj_ext at hc ⊢
  split at hc
  · exact hc.moved hvm
  · trivial
  · exact hc
theorem mj_at.moved {i : Nat} {c : mj_Cl} (hvm : s.vm.Alike U.vm) (hc : mj_at σ D cT base s i c H) : mj_at σ D cT base U i c H := by
  unfold mj_at at hc ⊢
  split
  · rename_i hb
    rw [hb] at hc
    exact hc
  · rename_i hb
    rw [hb] at hc
    exact mj_ext.moved hvm hc
theorem mj_R0.moved (hvm : s.vm.Alike U.vm) (hR : mj_R0 σ D cT base s h H) : mj_R0 σ D cT base U h H := ⟨fun i c hi => (hR.1 i c hi).moved hvm, hR.2⟩
theorem mj_E.call (hE : mj_E σ D cT base s) (hS : va_S (fun q => base ≤ q) s.heap H locs) (hU : U.heap = H) (hW : s.WarmedH U.vm) : mj_E σ D cT base U := by
  obtain ⟨h1, h2, h3, h4, h5⟩ := hE
  refine ⟨va_K.moved hW.alike h1, fun w hw => mj_warmN hw hW (h2 w hw), fun i q hq => ?_, by rw [hU]; exact Nat.le_trans h4 hS.1, h5⟩
  rw [hU]
  exact ((h3 i q hq).moved hW.alike).kept fun a ha hb => hS.2.1 a ha hb
theorem mj_E.calling {g : JFrame} {mk : MethodId} {a : Array Value} (hE : mj_E σ D cT base U) : mj_E σ D cT base (U.calling g mk a) := by
  obtain ⟨h1, h2, h3, h4, h5⟩ := hE
  have hv : U.vm.Alike (U.calling g mk a).vm := Vm.Alike.refl U.vm
  exact ⟨va_K.moved hv h1, fun w hw => mj_sameN (s := U) (U := U.calling g mk a) hw rfl (h2 w hw), fun i q hq => (h3 i q hq).moved hv, h4, h5⟩
theorem mj_Pc.blind {as : List Value} : FrameBlind (mj_Pc σ D cT base as h) := fun a U g mk ⟨h1, h2, h3⟩ => ⟨h1, h2.calling, h3.moved (U := U.calling g mk a) (Vm.Alike.refl U.vm)⟩
end MV
/-! a method from its entry -/
def mj_entA : List Value → List Value
  | [] => []
  | v :: r => if v.category = 2 then v :: mj_u :: mj_entA r else v :: mj_entA r
def mj_ent (as : List Value) (n : Nat) : List Value := mj_entA as ++ List.replicate (n - (mj_entA as).length) mj_u
theorem mj_entA_in {σ : Nat → Nat} : ∀ (as : List Value) (k i : Nat) (v : Value), (mj_entA as)[i]? = some v → v ≠ mj_u → (k + i, mj_cv σ v) ∈ lv_args k (as.map (mj_cv σ)) := by
  intro as
  induction as with
  | nil => intro k i v h; simp [mj_entA] at h
  | cons w r ih =>
    intro k i v h hv
    simp only [List.map_cons, lv_args, mj_cat]
    unfold mj_entA at h
    by_cases hc : w.category = 2
    · rw [if_pos hc] at h ⊢
      match i, h with
      | 0, h => cases h; exact List.mem_cons_self
      | 1, h => exact absurd (Option.some.inj h).symm hv
      | i + 2, h =>
        have := ih (k + 2) i v h hv
        rw [show k + (i + 2) = k + 2 + i by omega]
        exact List.mem_cons_of_mem _ this
    · rw [if_neg hc] at h ⊢
      match i, h with
      | 0, h => cases h; exact List.mem_cons_self
      | i + 1, h =>
        have := ih (k + 1) i v h hv
        rw [show k + (i + 1) = k + 1 + i by omega]
        exact List.mem_cons_of_mem _ this
theorem lg_sl_cons (w : Value) (r : List Value) : lg_sl (w :: r) = (if w.category = 2 then [.val w, .second] else [.val w]) ++ lg_sl r := by simp [lg_sl]
theorem mj_entA_len : ∀ (as : List Value), (mj_entA as).length = (lg_sl as).length := by
  intro as
  induction as with
  | nil => rfl
  | cons w r ih =>
    rw [lg_sl_cons, List.length_append, ← ih]
    simp only [mj_entA]
    by_cases hc : w.category = 2
    · rw [if_pos hc, if_pos hc]
      simp only [List.length_cons, List.length_nil]
      omega
    · rw [if_neg hc, if_neg hc]
      simp only [List.length_cons, List.length_nil]
      omega
theorem lg_sl_cv {σ : Nat → Nat} : ∀ (as : List Value), (lg_sl (as.map (mj_cv σ))).length = (lg_sl as).length := by
  intro as
  rw [← mj_entA_len, ← mj_entA_len]
  induction as with
  | nil => rfl
  | cons w r ih =>
    simp only [List.map_cons, mj_entA, mj_cat]
    by_cases hc : w.category = 2
    · rw [if_pos hc, if_pos hc]; simp only [List.length_cons, ih]
    · rw [if_neg hc, if_neg hc]; simp only [List.length_cons, ih]
/-- 'Met.ofW' for a class some of whose methods are run otherwise (java/lang/Math): by the method's own name -/
theorem mw_ofW {l : Launch} {y : MethodName} {ws ws' : List Cond} {rm : Room} {Pc : Array Value → State → Prop} {Qc : Array Value → State → Outcome → State → Prop} {mc ms : Nat} {free : Addr → Prop} {cc : ByteArray} {maxL : Nat} {ret : Option FieldType}
    (hy : plainFor y = true) (hw : ws = Cond.code y cc maxL ret :: ws')
    (body : ∀ p e s m args below meth c s₁, BodyLoose p l y (headSpec ws rm) cc maxL ret e s m args below meth c s₁ → c.maxLocals = maxL → Pc args s →
      W p l e (headSpec ws rm).room s m args below meth c s.heap [] 0 0 (MQ below Qc args s mc ms free) (entryFrame m args maxL)) : Met l y ws rm Pc Qc mc ms free := by
  refine MetFree.of_bodyRF (code := cc) (maxLocals := maxL) (ret := ret) hy ?_ ?_
  · intro args s m h hn
    obtain ⟨meth, c, h1, h2, h3, h4, h5, h6, -, -⟩ := Cond.code_spec hn (atoms_spec (ws := ws) h _ (by rw [hw]; exact List.mem_cons_self))
    exact ⟨meth, c, h1, h2, h3, h4, h5, h6⟩
  · intro p e s m args below meth c s₁ B hml hP _ hst
    have hh0 : s₁.heap = s.heap := by rw [B.state]; rfl
    obtain ⟨t, a1, o, b1, b2, b3⟩ := body p e s m args below meth c s₁ B hml hP s₁ hh0 (Stand.of_body B)
    exact ⟨t, o, hst.trans a1, b1, b2, ⟨b3.1, b3.2⟩⟩
/-- which row returns r -/
def mj_isR (ret : Option FieldType) (r : Option Value) (i : mj_I) : Prop := match i.1, r, ret with
  | .ireturn, some (.int _), some .int => i.2.1 = 1
  | .ireturn, some (.int x), some .boolean => i.2.1 = 1 ∧ narrow .boolean (.int x) = .int x
  | .lreturn, some (.long _), some .long => i.2.1 = 1
  | .dreturn, some (.double _), some .double => i.2.1 = 1
  | .areturn, some (.ref _), some (.object _) => i.2.1 = 1
  | .areturn, some (.ref _), some (.array _) => i.2.1 = 1
  | .return_, none, none => i.2.1 = 1
  | _, _, _ => False
def mj_Fin (M : mj_M) (κ : mj_K) (r : Option Value) (h' : mj_H) (mc ms : Nat) : Prop := ∀ (pc : Nat) (L : List Value) (cc cs : Nat) (i : mj_I), mj_cd M pc = some i → mj_isR (mM_ret M) r i → cc ≤ mc → cs ≤ ms → mj_G κ (pc, L, r.toList, h', cc, cs)
theorem mj_intro {M : mj_M} {as : List Value} {h : mj_H} {r : Option Value} {h' : mj_H} {mc ms d : Nat} (hA : mj_okA M = true) (hl : Nat.ble (lg_sl as).length (mM_nl M) = true) (body : ∀ κ : mj_K, mj_X M mc ms d κ → mj_Fin M κ r h' mc ms → mj_G κ (0, mj_ent as (mM_nl M), [], h, 0, 0)) : mj_Ct M as h r h' mc ms d := by
  obtain ⟨hcode, -, hinit, hown', hpl, -, -, -, -⟩ := mj_okA_Y hA
  intro l σ D cT base
  refine mw_ofW (cc := mM_cc M) (maxL := mM_nl M) (ret := mM_ret M) hpl rfl ?_
  intro p e s m args below meth c s₁ B hml hv
  obtain ⟨rfl, hE, hR⟩ := hv
  have hts0 := atoms_spec (ws := mj_wsM M) B.pre
  have hts : ∀ w ∈ mj_tbl, w.before _ s = true := fun w hw => hts0 w (List.mem_cons_of_mem _ hw)
  have hown : s.vm.findClass (mM_own M) = some m.cls := hown' ▸ findClass_of_methodNamed B.named
  have hlocks := B.notSynchronized
  have hin : mj_ini M = true → meth.name = "<init>" := fun h => ((name_of_methodNamed B.named B.method).1).trans (of_decide_eq_true h)
  have hlen : (lg_sl (as.map (mj_cv σ))).length ≤ mM_nl M := by rw [lg_sl_cv]; exact Nat.le_of_ble_eq_true hl
  have hle := lv_entry (as.map (mj_cv σ)) (n := mM_nl M) hlen
  rw [lg_entry_eq]
  generalize (lg_sl (as.map (mj_cv σ)) ++ List.replicate (mM_nl M - (lg_sl (as.map (mj_cv σ))).length) Slot.unset).toArray = ls at hle ⊢
  have hX : mj_X M mc ms d (p, l, e, (headSpec (mj_wsM M) (mj_rm d mc ms)).room, s, m, (as.map (mj_cv σ)).toArray, below, meth, c, MQ below (mj_Qc σ D cT base r h') (as.map (mj_cv σ)).toArray s mc ms (fun q => base ≤ q), σ, D, cT, base) := ⟨B.exec, B.bytes, hml, hown, hts, hE, hin, Nat.le_refl _, Nat.le_refl _, Nat.le_refl _, Nat.le_refl _⟩
  have hF : mj_Fin M (p, l, e, (headSpec (mj_wsM M) (mj_rm d mc ms)).room, s, m, (as.map (mj_cv σ)).toArray, below, meth, c, MQ below (mj_Qc σ D cT base r h') (as.map (mj_cv σ)).toArray s mc ms (fun q => base ≤ q), σ, D, cT, base) r h' mc ms := by
    intro pc L cc cs i hi hr hc1 hc2 H locs ls' hR' hl'
    have hdg := mj_dec hA hi
    obtain ⟨ins, len, a, b, w, v⟩ := i
    refine W.widen hc1 hc2 ?_
    have hq : ∀ t : State, t.heap = H → s.WarmedH t.vm → mj_Qc σ D cT base r h' (as.map (mj_cv σ)).toArray s (.returned (r.map (mj_cv σ))) t := fun t ht hW => ⟨rfl, by rw [ht]; exact mj_R0.moved (s := s) hW.alike ⟨hR'.1, hR'.2.1, hR'.2.2.1⟩, hR'.2.2.2.F ht⟩
    have hf : ∀ q ∈ locs, base ≤ q.base := hR'.2.2.2.2.2
    unfold mj_isR at hr
    have hret := B.returns
    dsimp only at hr hdg hq ⊢
    split at hr
    · rename_i e3
      rw [e3] at hret
      rw [hr] at hdg
      exact W.iret B.exec B.bytes hret hq hf hdg
    · rename_i e3
      rw [e3] at hret
      rw [hr.1] at hdg
      exact W.zret B.exec B.bytes hret hr.2 hq hf hdg
    · rename_i e3
      rw [e3] at hret
      rw [hr] at hdg
      exact W.lret B.exec B.bytes hret hq hf hdg
    · rename_i e3
      rw [e3] at hret
      rw [hr] at hdg
      exact W.dret B.exec B.bytes hret hq hf hdg
    · rename_i e3
      rw [e3] at hret
      rw [hr] at hdg
      exact W.aret B.exec B.bytes hret (Or.inl ⟨_, rfl⟩) (Or.inr ⟨_, rfl⟩) hq hf hdg
    · rename_i e3
      rw [e3] at hret
      rw [hr] at hdg
      exact W.aret B.exec B.bytes hret (Or.inr ⟨_, rfl⟩) (Or.inr ⟨_, rfl⟩) hq hf hdg
    · rename_i e3
      rw [e3] at hret
      rw [hr] at hdg
      exact W.vret B.exec B.bytes hret hq hf hdg
    · exact absurd hr id
  refine body _ hX hF s.heap [] ls ⟨hR.1, hR.2.1, hR.2.2, va_S.rf⟩ ⟨by rw [hml]; exact hle.1, hle.2.1, fun i v hi hv => ?_⟩
  have h2 : (mj_entA as)[i]? = some v := by
    unfold mj_ent at hi
    by_cases hlt : i < (mj_entA as).length
    · rw [List.getElem?_append_left hlt] at hi
      exact hi
    · rw [List.getElem?_append_right (by omega)] at hi
      exact absurd (List.eq_of_mem_replicate (List.mem_of_getElem? hi)) hv
  have h3 := mj_entA_in (σ := σ) as 0 i v h2 hv
  rw [Nat.zero_add] at h3
  exact hle.2.2 (i, mj_cv σ v) h3
/-! runs and calls, as they are used -/
theorem g_to {M : mj_M} {κ : mj_K} {RC RS dd : Nat} (hX : mj_X M RC RS dd κ) (hA : mj_okA M = true) (stop : Nat) (ds : List Bool) {g g' : mj_S} {P : Prop} (h : mj_run (mj_cd M) RC RS stop 200 ds g = some (P, g')) (hP : P) (k : mj_G κ g') : mj_G κ g := mj_simR hX (mj_okA_M hA) (mj_okA_F hA) 200 ds g g' P h hP k
theorem g_ret {M : mj_M} {κ : mj_K} {r : Option Value} {h' : mj_H} {mc ms : Nat} (hF : mj_Fin M κ r h' mc ms) {pc : Nat} {L st : List Value} {cc cs : Nat} {i : mj_I} (hi : mj_cd M pc = some i) (hr : mj_isR (mM_ret M) r i) (hs : st = r.toList) (hc : Nat.ble cc mc = true) (hs2 : Nat.ble cs ms = true) : mj_G κ (pc, L, st, h', cc, cs) := by
  subst hs
  exact hF pc L cc cs i hi hr (Nat.le_of_ble_eq_true hc) (Nat.le_of_ble_eq_true hs2)
section CL
variable {p : Program} {l : Launch} {e : Env} {R : Room} {s : State} {m : MethodId} {args : Array Value} {below : List Frame} {meth : Method} {c : Code} {H : Heap} {locs : List Loc} {cells slots : Nat} {Q : State → Prop}
theorem mw_after {σ : Nat → Nat} {D : va_G} {cT : FieldType → ClassId} {base : Nat} {h : mj_H} {r : Option Value} {h' : mj_H} {mc ms : Nat} {a : Array Value} {pc : Nat} {ls : Array Slot} {st0 rest : List Value} (hR : mj_R σ D cT base s h H locs)
    (hr : va_Run p l e R s m args below meth c H locs cells slots mc ms (F0 m pc ls st0) rest (mj_Qc σ D cT base r h' a) (fun q => base ≤ q))
    (k : ∀ (H1 : Heap) (locs1 : List Loc), mj_R σ D cT base s h' H1 locs1 → W p l e R s m args below meth c H1 locs1 (cells + mc) (slots + ms) Q (F0 m (pc + 3) ls ((r.map (mj_cv σ)).toList ++ rest))) : W p l e R s m args below meth c H locs cells slots Q (F0 m pc ls st0) := by
  intro T hT X
  obtain ⟨v, st₀, t, T', L, h0, X', hL, e1, e2, ⟨hv, hb, hz, hk⟩, st⟩ := hr T hT X
  cases hv
  rw [h0] at hz hk
  have hal : t.vm.Alike s.vm := by rw [← e2]; exact X'.warmed.alike.symm
  obtain ⟨t2, a1, b1⟩ := k T'.heap (locs ++ L) ⟨fun i c hi => by rw [e1]; exact (hb.1 i c hi).moved hal, by rw [e1]; exact hb.2.1, hb.2.2, ⟨Nat.le_trans hR.2.2.2.1 (by rw [e1]; exact hz), fun q h1 h2 => by
      rw [e1, hk q (Nat.lt_of_lt_of_le h1 hR.2.2.2.1) h2]
      exact hR.2.2.2.2.1 q h1 h2, fun q hq => by
      rcases List.mem_append.mp hq with h | h
      · exact hR.2.2.2.2.2 q h
      · exact hL q h⟩⟩ T' rfl X'
  exact ⟨t2, st t2 a1, b1⟩
end CL
def mj_isV (i : Option mj_I) (M : mj_M) : Bool := match i with
  | some (.invokevirtual _, 3, a, _, _, _) => Nat.beq a M.1 && Nat.blt a 1000
  | _ => false
def mj_isS (i : Option mj_I) (M : mj_M) : Bool := match i with
  | some (.invokestatic _, 3, a, _, _, _) => Nat.beq a M.1 && Nat.blt a 1000
  | _ => false
def mj_isI (i : Option mj_I) (M : mj_M) : Bool := match i with
  | some (.invokespecial _, 3, a, _, _, _) => Nat.beq a M.1 && Nat.blt a 1000
  | _ => false
def mj_rcv (h : mj_H) (q : Nat) (M : mj_M) : Bool := match h[q]?, Nat.ble mj_NE q, mj_cl[M.2.2.2.2.1]? with
  | some (.inr (ci, _)), true, some (C, _, _) => Nat.beq ci M.2.2.2.2.1 && decide (C = mM_own M)
  | _, _, _ => false
theorem mj_catS {σ : Nat → Nat} (rest : List Value) : ((rest.map (mj_cv σ)).map fun v => v.category).sum = (rest.map fun v => v.category).sum := by
  induction rest with
  | nil => rfl
  | cons v r ih => simp only [List.map_cons, List.sum_cons, ih, mj_cat]
theorem g_callV {M M' : mj_M} {κ : mj_K} {RC RS dd : Nat} (hX : mj_X M RC RS dd κ) (hA : mj_okA M = true) (hA' : mj_okA M' = true) {pc q : Nat} {L st As rest : List Value} {h h' : mj_H} {cc cs mc ms d : Nat} {r : Option Value} (hC : mj_Ct M' (.ref q :: As) h r h' mc ms d) (hi : mj_isV (mj_cd M pc) M' = true) (hsel : lw_tbl[mM_p3 M']? = some (Cond.selects (mM_y M').cls (mM_y M') (mM_y M')) ∧ lw_tbl[mM_p2 M']? = some (Cond.instanceMethod (mM_y M'))) (hst : st = As.reverse ++ .ref q :: rest) (hn : As.length = mM_np M') (hrc : mj_rcv h q M' = true) (hw : Nat.ble ((rest.map fun v => v.category).sum) 8 = true) (hroom : Nat.ble (cc + mc) RC = true ∧ Nat.ble (cs + ms) RS = true ∧ Nat.blt d dd = true) (k : mj_G κ (pc + 3, L, r.toList ++ rest, h', cc + mc, cs + ms)) : mj_G κ (pc, L, st, h, cc, cs) := by
  subst hst
  obtain ⟨hcode', -, hinit', hown', hpl', hm1, hm2, hnp, hnl⟩ := mj_okA_Y hA'
  obtain ⟨p, l, e, R, s, m, args, below, meth, c, Q, σ, D, cT, base⟩ := κ
  obtain ⟨hx, hb, hml, hown, hts, hE, hini, hRC, hRS, hRd, hRl⟩ := hX
  cases hcd : mj_cd M pc with
  | none => rw [hcd] at hi; cases hi
  | some i =>
    rw [hcd] at hi
    have hkat := mj_okA_K hA hcd
    have hdg := mj_dec hA hcd
    obtain ⟨ins, len, a, b, w, v⟩ := i
    unfold mj_isV at hi
    split at hi
    · rename_i idx a' b' w' v' heq
      cases heq
      simp only [Bool.and_eq_true] at hi
      have ha : a = M'.1 := Nat.eq_of_beq_eq_true hi.1
      have ha2 : a < 1000 := Nat.blt_eq.mp hi.2
      have hlink : lw_tbl[w]? = some (Cond.methodLink (mM_own M) idx (mM_y M')) := by
        simp only [mj_kat, Bool.or_eq_true, decide_eq_true_eq] at hkat
        rcases hkat with hk | hk
        · rw [ha] at hk; exact hk
        · exact absurd (Nat.le_of_ble_eq_true hk) (by omega)
      intro H locs ls hR hl
      obtain ⟨hr1, hr2, hr3⟩ := hroom
      have hd : d < dd := Nat.blt_eq.mp hr3
      have hT : GoodIn mj_tbl (wsV (mM_own M) idx (mM_y M').cls (mM_y M') (mj_wsM M')) := mj_good fun w hw => by
        unfold wsV at hw
        rcases List.mem_append.mp hw with hw | hw
        · simp only [List.mem_cons, List.not_mem_nil, or_false] at hw
          rcases hw with rfl | rfl | rfl | rfl
          · exact mj_in hlink rfl
          · exact mj_in hsel.2 rfl
          · exact mj_in hsel.1 rfl
          · exact hinit'
        · exact mj_goodM hA' w hw
      have cw : CallW R s args (mM_own M) (mM_y M').cls idx (mM_y M') (mM_cc M') (mM_nl M') (mM_ret M') (mj_wsM M') (mj_rm d mc ms) mc ms (mM_np M') := cwV (mM_np M') hts hT rfl rfl rfl ⟨rfl, hm1, hm2, hnp⟩ ⟨by show d + 1 ≤ R.frames; omega, by show 8 + (mM_nl M' + 11) + 64 * d ≤ R.locals; omega⟩
      unfold mj_rcv at hrc
      split at hrc
      · rename_i ci fs C T N hq hble hcl
        simp only [Bool.and_eq_true, decide_eq_true_eq] at hrc
        have hci : ci = M'.2.2.2.2.1 := Nat.eq_of_beq_eq_true hrc.1
        subst hci
        have hat := mj_at.own hble (mj_notJunk hcl) (hR.1 q _ hq)
        have hrv := va_recv hE.1 (mj_sg hat) hcl (q0 := 0) rfl
        have hcls : C = (mM_y M').cls := hrc.2.trans hown'.symm
        refine mw_after (a := (Value.ref (σ q) :: As.map (mj_cv σ)).toArray) (rest := rest.map (mj_cv σ)) hR (va_runV (As := As.map (mj_cv σ)) (b := σ q) (S := ⟨hx, hb, rfl, hown, hts⟩) (hC l σ D cT base) cw ⟨mj_Pc.blind, by rw [← hcls]; exact hrv, fun U hU hW => ⟨rfl, hE.call hR.2.2.2 hU hW, by rw [hU]; exact mj_R0.moved hW.alike ⟨hR.1, hR.2.1, hR.2.2.1⟩⟩⟩ rfl (by rw [List.length_map]; exact hn) hl.1 (by simp only [List.map_append, List.map_reverse, List.map_cons]; rfl) (lv_room (by rw [mj_catS]; exact Nat.le_of_ble_eq_true hw)) hdg ⟨Nat.le_trans (Nat.le_of_ble_eq_true hr1) hRC, Nat.le_trans (Nat.le_of_ble_eq_true hr2) hRS⟩) fun H1 locs1 hR1 => ?_
        have k' := k H1 locs1 ls hR1 hl
        have e9 : (r.toList ++ rest).map (mj_cv σ) = (r.map (mj_cv σ)).toList ++ rest.map (mj_cv σ) := by cases r <;> rfl
        simp only [e9] at k'
        exact k'
      · cases hrc
    · cases hi
theorem g_callS {M M' : mj_M} {κ : mj_K} {RC RS dd : Nat} (hX : mj_X M RC RS dd κ) (hA : mj_okA M = true) (hA' : mj_okA M' = true) {pc : Nat} {L st As rest : List Value} {h h' : mj_H} {cc cs mc ms d : Nat} {r : Option Value} (hC : mj_Ct M' As h r h' mc ms d) (hi : mj_isS (mj_cd M pc) M' = true) (hsta : lw_tbl[mM_p2 M']? = some (Cond.static (mM_y M'))) (hst : st = As.reverse ++ rest) (hn : As.length = mM_np M') (hw : Nat.ble ((rest.map fun v => v.category).sum) 8 = true) (hroom : Nat.ble (cc + mc) RC = true ∧ Nat.ble (cs + ms) RS = true ∧ Nat.blt d dd = true) (k : mj_G κ (pc + 3, L, r.toList ++ rest, h', cc + mc, cs + ms)) : mj_G κ (pc, L, st, h, cc, cs) := by
  subst hst
  obtain ⟨hcode', -, hinit', hown', hpl', hm1, hm2, hnp, hnl⟩ := mj_okA_Y hA'
  obtain ⟨p, l, e, R, s, m, args, below, meth, c, Q, σ, D, cT, base⟩ := κ
  obtain ⟨hx, hb, hml, hown, hts, hE, hini, hRC, hRS, hRd, hRl⟩ := hX
  cases hcd : mj_cd M pc with
  | none => rw [hcd] at hi; cases hi
  | some i =>
    rw [hcd] at hi
    have hkat := mj_okA_K hA hcd
    have hdg := mj_dec hA hcd
    obtain ⟨ins, len, a, b, w, v⟩ := i
    unfold mj_isS at hi
    split at hi
    · rename_i idx a' b' w' v' heq
      cases heq
      simp only [Bool.and_eq_true] at hi
      have ha : a = M'.1 := Nat.eq_of_beq_eq_true hi.1
      have ha2 : a < 1000 := Nat.blt_eq.mp hi.2
      have hlink : lw_tbl[w]? = some (Cond.methodLink (mM_own M) idx (mM_y M')) := by
        unfold mj_kat at hkat
        dsimp only at hkat
        split at hkat
        · omega
        · simp only [Bool.or_eq_true, decide_eq_true_eq] at hkat
          rcases hkat with hk | hk
          · rw [ha] at hk; exact hk
          · exact absurd (Nat.le_of_ble_eq_true hk) (by omega)
      intro H locs ls hR hl
      obtain ⟨hr1, hr2, hr3⟩ := hroom
      have hd : d < dd := Nat.blt_eq.mp hr3
      have hT : GoodIn mj_tbl (va_wsS (mM_own M) idx (mM_y M') (mj_wsM M')) := mj_good fun w hw => by
        unfold va_wsS at hw
        rcases List.mem_append.mp hw with hw | hw
        · simp only [List.mem_cons, List.not_mem_nil, or_false] at hw
          rcases hw with rfl | rfl | rfl
          · exact mj_in hlink rfl
          · exact mj_in hsta rfl
          · exact hinit'
        · exact mj_goodM hA' w hw
      have cw := va_cwS (R := R) (s := s) (args := args) (bytes := mM_cc M') (maxL := mM_nl M') (ret := mM_ret M') (rm := mj_rm d mc ms) (mM_np M') hts hT rfl rfl rfl ⟨hm1, hm2, hnp⟩ ⟨by show d + 1 ≤ R.frames; omega, by show 8 + (mM_nl M' + 11) + 64 * d ≤ R.locals; omega⟩
      refine mw_after (a := (As.map (mj_cv σ)).toArray) (rest := rest.map (mj_cv σ)) hR (va_runS (As := As.map (mj_cv σ)) (S := ⟨hx, hb, rfl, hown, hts⟩) (hC l σ D cT base) cw ⟨mj_Pc.blind, fun U hU hW => ⟨rfl, hE.call hR.2.2.2 hU hW, by rw [hU]; exact mj_R0.moved hW.alike ⟨hR.1, hR.2.1, hR.2.2.1⟩⟩⟩ rfl (by rw [List.length_map]; exact hn) hl.1 (by simp only [List.map_append, List.map_reverse]) (lv_room (by rw [mj_catS]; exact Nat.le_of_ble_eq_true hw)) hdg ⟨Nat.le_trans (Nat.le_of_ble_eq_true hr1) hRC, Nat.le_trans (Nat.le_of_ble_eq_true hr2) hRS⟩) fun H1 locs1 hR1 => ?_
      have k' := k H1 locs1 ls hR1 hl
      have e9 : (r.toList ++ rest).map (mj_cv σ) = (r.map (mj_cv σ)).toList ++ rest.map (mj_cv σ) := by cases r <;> rfl
      simp only [e9] at k'
      exact k'
    · cases hi
theorem g_callI {M M' : mj_M} {κ : mj_K} {RC RS dd : Nat} (hX : mj_X M RC RS dd κ) (hA : mj_okA M = true) (hA' : mj_okA M' = true) {pc q : Nat} {L st As rest : List Value} {h h' : mj_H} {cc cs mc ms d : Nat} (hC : mj_Ct M' (.ref q :: As) h none h' mc ms d) (hi : mj_isI (mj_cd M pc) M' = true) (hin2 : lw_tbl[mM_p2 M']? = some (Cond.instanceMethod (mM_y M'))) (hret : mM_ret M' = none) (hini' : mj_ini M' = true) (hst : st = As.reverse ++ .ref q :: rest) (hn : As.length = mM_np M') (hw : Nat.ble ((rest.map fun v => v.category).sum) 8 = true) (hroom : Nat.ble (cc + mc) RC = true ∧ Nat.ble (cs + ms) RS = true ∧ Nat.blt d dd = true) (k : mj_G κ (pc + 3, L, rest, h', cc + mc, cs + ms)) : mj_G κ (pc, L, st, h, cc, cs) := by
  subst hst
  obtain ⟨hcode', -, hinit', hown', hpl', hm1, hm2, hnp, hnl⟩ := mj_okA_Y hA'
  obtain ⟨p, l, e, R, s, m, args, below, meth, c, Q, σ, D, cT, base⟩ := κ
  obtain ⟨hx, hb, hml, hown, hts, hE, hini, hRC, hRS, hRd, hRl⟩ := hX
  have hnm : (mM_y M').name = "<init>" := of_decide_eq_true hini'
  cases hcd : mj_cd M pc with
  | none => rw [hcd] at hi; cases hi
  | some i =>
    rw [hcd] at hi
    have hkat := mj_okA_K hA hcd
    have hdg := mj_dec hA hcd
    obtain ⟨ins, len, a, b, w, v⟩ := i
    unfold mj_isI at hi
    split at hi
    · rename_i idx a' b' w' v' heq
      cases heq
      simp only [Bool.and_eq_true] at hi
      have ha : a = M'.1 := Nat.eq_of_beq_eq_true hi.1
      have ha2 : a < 1000 := Nat.blt_eq.mp hi.2
      obtain ⟨hr1, hr2, hr3⟩ := hroom
      have hd : d < dd := Nat.blt_eq.mp hr3
      intro H locs ls hR hl
      have hwsM : mj_wsM M' = Cond.code (mM_y M') (mM_cc M') (mM_nl M') none :: mj_tbl := by unfold mj_wsM; rw [hret]
      have hgM : GoodIn mj_tbl (mj_wsM M') := mj_good (mj_goodM hA')
      have hRm : (mj_rm d mc ms).frames + 1 ≤ R.frames ∧ 8 + (mM_nl M' + 11) + (mj_rm d mc ms).locals ≤ R.locals := ⟨by show d + 1 ≤ R.frames; omega, by show 8 + (mM_nl M' + 11) + 64 * d ≤ R.locals; omega⟩
      have fin : ∀ run : va_Run p l e R s m args below meth c H locs cc cs mc ms (F0 m pc ls ((As.reverse ++ .ref q :: rest).map (mj_cv σ))) (rest.map (mj_cv σ)) (mj_Qc σ D cT base none h' (Value.ref (σ q) :: As.map (mj_cv σ)).toArray) (fun q => base ≤ q), W p l e R s m args below meth c H locs cc cs Q (F0 m pc ls ((As.reverse ++ .ref q :: rest).map (mj_cv σ))) := fun run =>
        mw_after (a := (Value.ref (σ q) :: As.map (mj_cv σ)).toArray) (rest := rest.map (mj_cv σ)) hR run fun H1 locs1 hR1 => k H1 locs1 ls hR1 hl
      unfold mj_kat at hkat
      dsimp only at hkat
      split at hkat
      · omega
      · simp only [Bool.or_eq_true, decide_eq_true_eq] at hkat
        have hlink : lw_tbl[w]? = some (Cond.methodLink (mM_own M) idx (mM_y M')) := by
          rcases hkat with hk | hk
          · rw [ha] at hk; exact hk
          · exact absurd (Nat.le_of_ble_eq_true hk) (by omega)
        have cw := cwI (R := R) (rm := mj_rm d mc ms) (mM_np M') hts hgM hwsM rfl rfl (hts _ hinit') (hts _ (mj_in hlink rfl)) (hts _ (mj_in hin2 rfl)) hnm ⟨hm1, hm2, hnp⟩ hRm
        exact fin (va_runI (As := As.map (mj_cv σ)) (b := σ q) (S := ⟨hx, hb, rfl, hown, hts⟩) (hC l σ D cT base) cw ⟨mj_Pc.blind, fun U hU hW => ⟨rfl, hE.call hR.2.2.2 hU hW, by rw [hU]; exact mj_R0.moved hW.alike ⟨hR.1, hR.2.1, hR.2.2.1⟩⟩⟩ rfl (by rw [List.length_map]; exact hn) hl.1 (by simp only [List.map_append, List.map_reverse, List.map_cons]; rfl) (lv_room (by rw [mj_catS]; exact Nat.le_of_ble_eq_true hw)) hdg ⟨Nat.le_trans (Nat.le_of_ble_eq_true hr1) hRC, Nat.le_trans (Nat.le_of_ble_eq_true hr2) hRS⟩)
      · obtain ⟨z, hz1, hz2⟩ := List.any_eq_true.mp hkat
        split at hz2
        · rename_i o i y host
          obtain ⟨e1, e2, e3⟩ := of_decide_eq_true hz2
          rw [e1, e2, e3, ha] at hz1
          have cw := va_cnB (R := R) (s := s) (args := args) (rm := mj_rm d mc ms) (mM_np M') hts hgM hwsM rfl rfl (hE.2.1 _ hz1) (hts _ hinit') ⟨hm1, hm2, hnp⟩ hRm
          exact fin (va_runIN (As := As.map (mj_cv σ)) (b := σ q) (S := ⟨hx, hb, rfl, hown, hts⟩) (hC l σ D cT base) ⟨cw, hnm, hts _ (mj_in hin2 rfl)⟩ ⟨mj_Pc.blind, fun U hU hW => ⟨rfl, hE.call hR.2.2.2 hU hW, by rw [hU]; exact mj_R0.moved hW.alike ⟨hR.1, hR.2.1, hR.2.2.1⟩⟩⟩ rfl (by rw [List.length_map]; exact hn) hl.1 (by simp only [List.map_append, List.map_reverse, List.map_cons]; rfl) (lv_room (by rw [mj_catS]; exact Nat.le_of_ble_eq_true hw)) hdg ⟨Nat.le_trans (Nat.le_of_ble_eq_true hr1) hRC, Nat.le_trans (Nat.le_of_ble_eq_true hr2) hRS⟩)
        · cases hz2
    · cases hi
def mj_isO (i : Option mj_I) : Bool := match i with
  | some (.invokespecial _, 3, 1000, _, _, _) => true
  | _ => false
theorem mj_obj : Cond.instanceMethod objectInit ∈ mj_tbl ∧ Cond.code objectInit ⟨#[0xb1]⟩ 1 none ∈ mj_tbl := ⟨mj_in (p := mj_ob1) (by decide +kernel) rfl, mj_in (p := mj_ob2) (by decide +kernel) rfl⟩
/-- Object's constructor -/
theorem g_obj {M : mj_M} {κ : mj_K} {RC RS dd : Nat} (hX : mj_X M RC RS dd κ) (hA : mj_okA M = true) {pc q : Nat} {L rest : List Value} {h : mj_H} {cc cs : Nat} (hi : mj_isO (mj_cd M pc) = true) (hw : Nat.ble ((rest.map fun v => v.category).sum) 8 = true) (hd : Nat.blt 0 dd = true) (k : mj_G κ (pc + 3, L, rest, h, cc, cs)) : mj_G κ (pc, L, .ref q :: rest, h, cc, cs) := by
  obtain ⟨p, l, e, R, s, m, args, below, meth, c, Q, σ, D, cT, base⟩ := κ
  obtain ⟨hx, hb, hml, hown, hts, hE, hini, hRC, hRS, hRd, hRl⟩ := hX
  cases hcd : mj_cd M pc with
  | none => rw [hcd] at hi; cases hi
  | some i =>
    rw [hcd] at hi
    have hkat := mj_okA_K hA hcd
    have hdg := mj_dec hA hcd
    obtain ⟨ins, len, a, b, w, v⟩ := i
    unfold mj_isO at hi
    split at hi
    · rename_i idx b' w' v' heq
      cases heq
      have hlink : lw_tbl[w]? = some (Cond.methodLink (mM_own M) idx objectInit) := of_decide_eq_true hkat
      have hd' : 0 < dd := Nat.blt_eq.mp hd
      intro H locs ls hR hl
      have hw' : ((rest.map (mj_cv σ)).map fun v => v.category).sum ≤ 8 := by rw [mj_catS]; exact Nat.le_of_ble_eq_true hw
      exact W.objInit hx hb hown (hts _ (mj_in hlink rfl)) (hts _ mj_obj.1) (hts _ mj_obj.2) rfl hl.1 rfl hdg (by omega) (by show 2 * 0 + _ + 12 ≤ _; omega) (k H locs ls hR hl)
    · cases hi
end
section
theorem ok_Land_init : mj_okA m_Land_init = true := by decide +kernel
theorem in_Land_init : lw_tbl[mM_p2 m_Land_init]? = some (Cond.instanceMethod (mM_y m_Land_init)) ∧ mM_ret m_Land_init = none ∧ mj_ini m_Land_init = true := by decide +kernel
theorem ok_Hollows_init : mj_okA m_Hollows_init = true := by decide +kernel
theorem in_Hollows_init : lw_tbl[mM_p2 m_Hollows_init]? = some (Cond.instanceMethod (mM_y m_Hollows_init)) ∧ mM_ret m_Hollows_init = none ∧ mj_ini m_Hollows_init = true := by decide +kernel
theorem ok_Frontier_init : mj_okA m_Frontier_init = true := by decide +kernel
theorem in_Frontier_init : lw_tbl[mM_p2 m_Frontier_init]? = some (Cond.instanceMethod (mM_y m_Frontier_init)) ∧ mM_ret m_Frontier_init = none ∧ mj_ini m_Frontier_init = true := by decide +kernel
theorem ok_Groups_init : mj_okA m_Groups_init = true := by decide +kernel
theorem in_Groups_init : lw_tbl[mM_p2 m_Groups_init]? = some (Cond.instanceMethod (mM_y m_Groups_init)) ∧ mM_ret m_Groups_init = none ∧ mj_ini m_Groups_init = true := by decide +kernel
theorem ok_Sight_init : mj_okA m_Sight_init = true := by decide +kernel
theorem in_Sight_init : lw_tbl[mM_p2 m_Sight_init]? = some (Cond.instanceMethod (mM_y m_Sight_init)) ∧ mM_ret m_Sight_init = none ∧ mj_ini m_Sight_init = true := by decide +kernel
theorem ok_Land_layOut : mj_okA m_Land_layOut = true := by decide +kernel
theorem se_Land_layOut : lw_tbl[mM_p3 m_Land_layOut]? = some (Cond.selects (mM_y m_Land_layOut).cls (mM_y m_Land_layOut) (mM_y m_Land_layOut)) ∧ lw_tbl[mM_p2 m_Land_layOut]? = some (Cond.instanceMethod (mM_y m_Land_layOut)) := by decide +kernel
theorem ok_Arr_fill : mj_okA m_Arr_fill = true := by decide +kernel
theorem st_Arr_fill : lw_tbl[mM_p2 m_Arr_fill]? = some (Cond.static (mM_y m_Arr_fill)) := by decide +kernel
theorem ok_Land_findNeighbours : mj_okA m_Land_findNeighbours = true := by decide +kernel
theorem se_Land_findNeighbours : lw_tbl[mM_p3 m_Land_findNeighbours]? = some (Cond.selects (mM_y m_Land_findNeighbours).cls (mM_y m_Land_findNeighbours) (mM_y m_Land_findNeighbours)) ∧ lw_tbl[mM_p2 m_Land_findNeighbours]? = some (Cond.instanceMethod (mM_y m_Land_findNeighbours)) := by decide +kernel
theorem ok_Land_numberOf : mj_okA m_Land_numberOf = true := by decide +kernel
theorem se_Land_numberOf : lw_tbl[mM_p3 m_Land_numberOf]? = some (Cond.selects (mM_y m_Land_numberOf).cls (mM_y m_Land_numberOf) (mM_y m_Land_numberOf)) ∧ lw_tbl[mM_p2 m_Land_numberOf]? = some (Cond.instanceMethod (mM_y m_Land_numberOf)) := by decide +kernel
theorem ok_Land_has : mj_okA m_Land_has = true := by decide +kernel
theorem se_Land_has : lw_tbl[mM_p3 m_Land_has]? = some (Cond.selects (mM_y m_Land_has).cls (mM_y m_Land_has) (mM_y m_Land_has)) ∧ lw_tbl[mM_p2 m_Land_has]? = some (Cond.instanceMethod (mM_y m_Land_has)) := by decide +kernel
theorem ok_Land_soften : mj_okA m_Land_soften = true := by decide +kernel
theorem se_Land_soften : lw_tbl[mM_p3 m_Land_soften]? = some (Cond.selects (mM_y m_Land_soften).cls (mM_y m_Land_soften) (mM_y m_Land_soften)) ∧ lw_tbl[mM_p2 m_Land_soften]? = some (Cond.instanceMethod (mM_y m_Land_soften)) := by decide +kernel
theorem ok_Land_neighbour : mj_okA m_Land_neighbour = true := by decide +kernel
theorem se_Land_neighbour : lw_tbl[mM_p3 m_Land_neighbour]? = some (Cond.selects (mM_y m_Land_neighbour).cls (mM_y m_Land_neighbour) (mM_y m_Land_neighbour)) ∧ lw_tbl[mM_p2 m_Land_neighbour]? = some (Cond.instanceMethod (mM_y m_Land_neighbour)) := by decide +kernel
theorem ok_Land_exchange : mj_okA m_Land_exchange = true := by decide +kernel
theorem se_Land_exchange : lw_tbl[mM_p3 m_Land_exchange]? = some (Cond.selects (mM_y m_Land_exchange).cls (mM_y m_Land_exchange) (mM_y m_Land_exchange)) ∧ lw_tbl[mM_p2 m_Land_exchange]? = some (Cond.instanceMethod (mM_y m_Land_exchange)) := by decide +kernel
theorem ok_Hollows_find : mj_okA m_Hollows_find = true := by decide +kernel
theorem se_Hollows_find : lw_tbl[mM_p3 m_Hollows_find]? = some (Cond.selects (mM_y m_Hollows_find).cls (mM_y m_Hollows_find) (mM_y m_Hollows_find)) ∧ lw_tbl[mM_p2 m_Hollows_find]? = some (Cond.instanceMethod (mM_y m_Hollows_find)) := by decide +kernel
theorem ok_Hollows_findLevels : mj_okA m_Hollows_findLevels = true := by decide +kernel
theorem se_Hollows_findLevels : lw_tbl[mM_p3 m_Hollows_findLevels]? = some (Cond.selects (mM_y m_Hollows_findLevels).cls (mM_y m_Hollows_findLevels) (mM_y m_Hollows_findLevels)) ∧ lw_tbl[mM_p2 m_Hollows_findLevels]? = some (Cond.instanceMethod (mM_y m_Hollows_findLevels)) := by decide +kernel
theorem ok_Frontier_clear : mj_okA m_Frontier_clear = true := by decide +kernel
theorem se_Frontier_clear : lw_tbl[mM_p3 m_Frontier_clear]? = some (Cond.selects (mM_y m_Frontier_clear).cls (mM_y m_Frontier_clear) (mM_y m_Frontier_clear)) ∧ lw_tbl[mM_p2 m_Frontier_clear]? = some (Cond.instanceMethod (mM_y m_Frontier_clear)) := by decide +kernel
theorem ok_Land_atEdge : mj_okA m_Land_atEdge = true := by decide +kernel
theorem se_Land_atEdge : lw_tbl[mM_p3 m_Land_atEdge]? = some (Cond.selects (mM_y m_Land_atEdge).cls (mM_y m_Land_atEdge) (mM_y m_Land_atEdge)) ∧ lw_tbl[mM_p2 m_Land_atEdge]? = some (Cond.instanceMethod (mM_y m_Land_atEdge)) := by decide +kernel
theorem ok_Frontier_add : mj_okA m_Frontier_add = true := by decide +kernel
theorem se_Frontier_add : lw_tbl[mM_p3 m_Frontier_add]? = some (Cond.selects (mM_y m_Frontier_add).cls (mM_y m_Frontier_add) (mM_y m_Frontier_add)) ∧ lw_tbl[mM_p2 m_Frontier_add]? = some (Cond.instanceMethod (mM_y m_Frontier_add)) := by decide +kernel
theorem ok_Frontier_takeLeast : mj_okA m_Frontier_takeLeast = true := by decide +kernel
theorem se_Frontier_takeLeast : lw_tbl[mM_p3 m_Frontier_takeLeast]? = some (Cond.selects (mM_y m_Frontier_takeLeast).cls (mM_y m_Frontier_takeLeast) (mM_y m_Frontier_takeLeast)) ∧ lw_tbl[mM_p2 m_Frontier_takeLeast]? = some (Cond.instanceMethod (mM_y m_Frontier_takeLeast)) := by decide +kernel
theorem ok_Hollows_spread : mj_okA m_Hollows_spread = true := by decide +kernel
theorem se_Hollows_spread : lw_tbl[mM_p3 m_Hollows_spread]? = some (Cond.selects (mM_y m_Hollows_spread).cls (mM_y m_Hollows_spread) (mM_y m_Hollows_spread)) ∧ lw_tbl[mM_p2 m_Hollows_spread]? = some (Cond.instanceMethod (mM_y m_Hollows_spread)) := by decide +kernel
theorem ok_Math_max : mj_okA m_Math_max = true := by decide +kernel
theorem st_Math_max : lw_tbl[mM_p2 m_Math_max]? = some (Cond.static (mM_y m_Math_max)) := by decide +kernel
theorem ok_Groups_part : mj_okA m_Groups_part = true := by decide +kernel
theorem se_Groups_part : lw_tbl[mM_p3 m_Groups_part]? = some (Cond.selects (mM_y m_Groups_part).cls (mM_y m_Groups_part) (mM_y m_Groups_part)) ∧ lw_tbl[mM_p2 m_Groups_part]? = some (Cond.instanceMethod (mM_y m_Groups_part)) := by decide +kernel
theorem ok_Hollows_inLake : mj_okA m_Hollows_inLake = true := by decide +kernel
theorem se_Hollows_inLake : lw_tbl[mM_p3 m_Hollows_inLake]? = some (Cond.selects (mM_y m_Hollows_inLake).cls (mM_y m_Hollows_inLake) (mM_y m_Hollows_inLake)) ∧ lw_tbl[mM_p2 m_Hollows_inLake]? = some (Cond.instanceMethod (mM_y m_Hollows_inLake)) := by decide +kernel
theorem ok_Hollows_depth : mj_okA m_Hollows_depth = true := by decide +kernel
theorem se_Hollows_depth : lw_tbl[mM_p3 m_Hollows_depth]? = some (Cond.selects (mM_y m_Hollows_depth).cls (mM_y m_Hollows_depth) (mM_y m_Hollows_depth)) ∧ lw_tbl[mM_p2 m_Hollows_depth]? = some (Cond.instanceMethod (mM_y m_Hollows_depth)) := by decide +kernel
theorem ok_Hollows_joinLakes : mj_okA m_Hollows_joinLakes = true := by decide +kernel
theorem se_Hollows_joinLakes : lw_tbl[mM_p3 m_Hollows_joinLakes]? = some (Cond.selects (mM_y m_Hollows_joinLakes).cls (mM_y m_Hollows_joinLakes) (mM_y m_Hollows_joinLakes)) ∧ lw_tbl[mM_p2 m_Hollows_joinLakes]? = some (Cond.instanceMethod (mM_y m_Hollows_joinLakes)) := by decide +kernel
theorem ok_Groups_join : mj_okA m_Groups_join = true := by decide +kernel
theorem se_Groups_join : lw_tbl[mM_p3 m_Groups_join]? = some (Cond.selects (mM_y m_Groups_join).cls (mM_y m_Groups_join) (mM_y m_Groups_join)) ∧ lw_tbl[mM_p2 m_Groups_join]? = some (Cond.instanceMethod (mM_y m_Groups_join)) := by decide +kernel
theorem ok_Groups_leaderOf : mj_okA m_Groups_leaderOf = true := by decide +kernel
theorem se_Groups_leaderOf : lw_tbl[mM_p3 m_Groups_leaderOf]? = some (Cond.selects (mM_y m_Groups_leaderOf).cls (mM_y m_Groups_leaderOf) (mM_y m_Groups_leaderOf)) ∧ lw_tbl[mM_p2 m_Groups_leaderOf]? = some (Cond.instanceMethod (mM_y m_Groups_leaderOf)) := by decide +kernel
theorem ok_Land_raiseTo : mj_okA m_Land_raiseTo = true := by decide +kernel
theorem se_Land_raiseTo : lw_tbl[mM_p3 m_Land_raiseTo]? = some (Cond.selects (mM_y m_Land_raiseTo).cls (mM_y m_Land_raiseTo) (mM_y m_Land_raiseTo)) ∧ lw_tbl[mM_p2 m_Land_raiseTo]? = some (Cond.instanceMethod (mM_y m_Land_raiseTo)) := by decide +kernel
theorem ok_Land_slanted : mj_okA m_Land_slanted = true := by decide +kernel
theorem st_Land_slanted : lw_tbl[mM_p2 m_Land_slanted]? = some (Cond.static (mM_y m_Land_slanted)) := by decide +kernel
theorem ok_Hollows_content : mj_okA m_Hollows_content = true := by decide +kernel
theorem se_Hollows_content : lw_tbl[mM_p3 m_Hollows_content]? = some (Cond.selects (mM_y m_Hollows_content).cls (mM_y m_Hollows_content) (mM_y m_Hollows_content)) ∧ lw_tbl[mM_p2 m_Hollows_content]? = some (Cond.instanceMethod (mM_y m_Hollows_content)) := by decide +kernel
theorem ok_Land_meanSteepness : mj_okA m_Land_meanSteepness = true := by decide +kernel
theorem se_Land_meanSteepness : lw_tbl[mM_p3 m_Land_meanSteepness]? = some (Cond.selects (mM_y m_Land_meanSteepness).cls (mM_y m_Land_meanSteepness) (mM_y m_Land_meanSteepness)) ∧ lw_tbl[mM_p2 m_Land_meanSteepness]? = some (Cond.instanceMethod (mM_y m_Land_meanSteepness)) := by decide +kernel
theorem ok_Land_steepnessOf : mj_okA m_Land_steepnessOf = true := by decide +kernel
theorem se_Land_steepnessOf : lw_tbl[mM_p3 m_Land_steepnessOf]? = some (Cond.selects (mM_y m_Land_steepnessOf).cls (mM_y m_Land_steepnessOf) (mM_y m_Land_steepnessOf)) ∧ lw_tbl[mM_p2 m_Land_steepnessOf]? = some (Cond.instanceMethod (mM_y m_Land_steepnessOf)) := by decide +kernel
theorem ok_Land_difference : mj_okA m_Land_difference = true := by decide +kernel
theorem se_Land_difference : lw_tbl[mM_p3 m_Land_difference]? = some (Cond.selects (mM_y m_Land_difference).cls (mM_y m_Land_difference) (mM_y m_Land_difference)) ∧ lw_tbl[mM_p2 m_Land_difference]? = some (Cond.instanceMethod (mM_y m_Land_difference)) := by decide +kernel
theorem ok_Math_abs : mj_okA m_Math_abs = true := by decide +kernel
theorem st_Math_abs : lw_tbl[mM_p2 m_Math_abs]? = some (Cond.static (mM_y m_Math_abs)) := by decide +kernel
theorem ok_Land_told : mj_okA m_Land_told = true := by decide +kernel
theorem se_Land_told : lw_tbl[mM_p3 m_Land_told]? = some (Cond.selects (mM_y m_Land_told).cls (mM_y m_Land_told) (mM_y m_Land_told)) ∧ lw_tbl[mM_p2 m_Land_told]? = some (Cond.instanceMethod (mM_y m_Land_told)) := by decide +kernel
theorem ok_Land_lowest : mj_okA m_Land_lowest = true := by decide +kernel
theorem se_Land_lowest : lw_tbl[mM_p3 m_Land_lowest]? = some (Cond.selects (mM_y m_Land_lowest).cls (mM_y m_Land_lowest) (mM_y m_Land_lowest)) ∧ lw_tbl[mM_p2 m_Land_lowest]? = some (Cond.instanceMethod (mM_y m_Land_lowest)) := by decide +kernel
theorem ok_Math_min : mj_okA m_Math_min = true := by decide +kernel
theorem st_Math_min : lw_tbl[mM_p2 m_Math_min]? = some (Cond.static (mM_y m_Math_min)) := by decide +kernel
theorem ok_Land_greatest : mj_okA m_Land_greatest = true := by decide +kernel
theorem se_Land_greatest : lw_tbl[mM_p3 m_Land_greatest]? = some (Cond.selects (mM_y m_Land_greatest).cls (mM_y m_Land_greatest) (mM_y m_Land_greatest)) ∧ lw_tbl[mM_p2 m_Land_greatest]? = some (Cond.instanceMethod (mM_y m_Land_greatest)) := by decide +kernel
theorem ok_Land_sum : mj_okA m_Land_sum = true := by decide +kernel
theorem se_Land_sum : lw_tbl[mM_p3 m_Land_sum]? = some (Cond.selects (mM_y m_Land_sum).cls (mM_y m_Land_sum) (mM_y m_Land_sum)) ∧ lw_tbl[mM_p2 m_Land_sum]? = some (Cond.instanceMethod (mM_y m_Land_sum)) := by decide +kernel
theorem ok_Land_slope : mj_okA m_Land_slope = true := by decide +kernel
theorem se_Land_slope : lw_tbl[mM_p3 m_Land_slope]? = some (Cond.selects (mM_y m_Land_slope).cls (mM_y m_Land_slope) (mM_y m_Land_slope)) ∧ lw_tbl[mM_p2 m_Land_slope]? = some (Cond.instanceMethod (mM_y m_Land_slope)) := by decide +kernel
theorem ok_Land_raise : mj_okA m_Land_raise = true := by decide +kernel
theorem se_Land_raise : lw_tbl[mM_p3 m_Land_raise]? = some (Cond.selects (mM_y m_Land_raise).cls (mM_y m_Land_raise) (mM_y m_Land_raise)) ∧ lw_tbl[mM_p2 m_Land_raise]? = some (Cond.instanceMethod (mM_y m_Land_raise)) := by decide +kernel
theorem ok_Land_cutDown : mj_okA m_Land_cutDown = true := by decide +kernel
theorem se_Land_cutDown : lw_tbl[mM_p3 m_Land_cutDown]? = some (Cond.selects (mM_y m_Land_cutDown).cls (mM_y m_Land_cutDown) (mM_y m_Land_cutDown)) ∧ lw_tbl[mM_p2 m_Land_cutDown]? = some (Cond.instanceMethod (mM_y m_Land_cutDown)) := by decide +kernel
theorem ok_Land_stepsBetween : mj_okA m_Land_stepsBetween = true := by decide +kernel
theorem st_Land_stepsBetween : lw_tbl[mM_p2 m_Land_stepsBetween]? = some (Cond.static (mM_y m_Land_stepsBetween)) := by decide +kernel
theorem ok_Land_between : mj_okA m_Land_between = true := by decide +kernel
theorem st_Land_between : lw_tbl[mM_p2 m_Land_between]? = some (Cond.static (mM_y m_Land_between)) := by decide +kernel
theorem ok_Math_floorDiv : mj_okA m_Math_floorDiv = true := by decide +kernel
theorem st_Math_floorDiv : lw_tbl[mM_p2 m_Math_floorDiv]? = some (Cond.static (mM_y m_Math_floorDiv)) := by decide +kernel
theorem ok_Land_washAway : mj_okA m_Land_washAway = true := by decide +kernel
theorem se_Land_washAway : lw_tbl[mM_p3 m_Land_washAway]? = some (Cond.selects (mM_y m_Land_washAway).cls (mM_y m_Land_washAway) (mM_y m_Land_washAway)) ∧ lw_tbl[mM_p2 m_Land_washAway]? = some (Cond.instanceMethod (mM_y m_Land_washAway)) := by decide +kernel
theorem ok_Hollows_sizeOfLake : mj_okA m_Hollows_sizeOfLake = true := by decide +kernel
theorem se_Hollows_sizeOfLake : lw_tbl[mM_p3 m_Hollows_sizeOfLake]? = some (Cond.selects (mM_y m_Hollows_sizeOfLake).cls (mM_y m_Hollows_sizeOfLake) (mM_y m_Hollows_sizeOfLake)) ∧ lw_tbl[mM_p2 m_Hollows_sizeOfLake]? = some (Cond.instanceMethod (mM_y m_Hollows_sizeOfLake)) := by decide +kernel
theorem ok_Hollows_inOneLake : mj_okA m_Hollows_inOneLake = true := by decide +kernel
theorem se_Hollows_inOneLake : lw_tbl[mM_p3 m_Hollows_inOneLake]? = some (Cond.selects (mM_y m_Hollows_inOneLake).cls (mM_y m_Hollows_inOneLake) (mM_y m_Hollows_inOneLake)) ∧ lw_tbl[mM_p2 m_Hollows_inOneLake]? = some (Cond.instanceMethod (mM_y m_Hollows_inOneLake)) := by decide +kernel
theorem ok_Hollows_contentOfLake : mj_okA m_Hollows_contentOfLake = true := by decide +kernel
theorem se_Hollows_contentOfLake : lw_tbl[mM_p3 m_Hollows_contentOfLake]? = some (Cond.selects (mM_y m_Hollows_contentOfLake).cls (mM_y m_Hollows_contentOfLake) (mM_y m_Hollows_contentOfLake)) ∧ lw_tbl[mM_p2 m_Hollows_contentOfLake]? = some (Cond.instanceMethod (mM_y m_Hollows_contentOfLake)) := by decide +kernel
theorem ok_Sight_reaches : mj_okA m_Sight_reaches = true := by decide +kernel
theorem se_Sight_reaches : lw_tbl[mM_p3 m_Sight_reaches]? = some (Cond.selects (mM_y m_Sight_reaches).cls (mM_y m_Sight_reaches) (mM_y m_Sight_reaches)) ∧ lw_tbl[mM_p2 m_Sight_reaches]? = some (Cond.instanceMethod (mM_y m_Sight_reaches)) := by decide +kernel
theorem ok_Sight_countFrom : mj_okA m_Sight_countFrom = true := by decide +kernel
theorem se_Sight_countFrom : lw_tbl[mM_p3 m_Sight_countFrom]? = some (Cond.selects (mM_y m_Sight_countFrom).cls (mM_y m_Sight_countFrom) (mM_y m_Sight_countFrom)) ∧ lw_tbl[mM_p2 m_Sight_countFrom]? = some (Cond.instanceMethod (mM_y m_Sight_countFrom)) := by decide +kernel
end
section
theorem ok_W_init : mj_okA m_W_init = true := by decide +kernel
theorem in_W_init : lw_tbl[mM_p2 m_W_init]? = some (Cond.instanceMethod (mM_y m_W_init)) ∧ mM_ret m_W_init = none ∧ mj_ini m_W_init = true := by decide +kernel
theorem ok_Streams_init : mj_okA m_Streams_init = true := by decide +kernel
theorem in_Streams_init : lw_tbl[mM_p2 m_Streams_init]? = some (Cond.instanceMethod (mM_y m_Streams_init)) ∧ mM_ret m_Streams_init = none ∧ mj_ini m_Streams_init = true := by decide +kernel
theorem ok_Contours_init : mj_okA m_Contours_init = true := by decide +kernel
theorem in_Contours_init : lw_tbl[mM_p2 m_Contours_init]? = some (Cond.instanceMethod (mM_y m_Contours_init)) ∧ mM_ret m_Contours_init = none ∧ mj_ini m_Contours_init = true := by decide +kernel
theorem ok_Ways_init : mj_okA m_Ways_init = true := by decide +kernel
theorem in_Ways_init : lw_tbl[mM_p2 m_Ways_init]? = some (Cond.instanceMethod (mM_y m_Ways_init)) ∧ mM_ret m_Ways_init = none ∧ mj_ini m_Ways_init = true := by decide +kernel
theorem ok_W_smooth : mj_okA m_W_smooth = true := by decide +kernel
theorem se_W_smooth : lw_tbl[mM_p3 m_W_smooth]? = some (Cond.selects (mM_y m_W_smooth).cls (mM_y m_W_smooth) (mM_y m_W_smooth)) ∧ lw_tbl[mM_p2 m_W_smooth]? = some (Cond.instanceMethod (mM_y m_W_smooth)) := by decide +kernel
theorem ok_W_fill : mj_okA m_W_fill = true := by decide +kernel
theorem se_W_fill : lw_tbl[mM_p3 m_W_fill]? = some (Cond.selects (mM_y m_W_fill).cls (mM_y m_W_fill) (mM_y m_W_fill)) ∧ lw_tbl[mM_p2 m_W_fill]? = some (Cond.instanceMethod (mM_y m_W_fill)) := by decide +kernel
theorem ok_W_basins : mj_okA m_W_basins = true := by decide +kernel
theorem se_W_basins : lw_tbl[mM_p3 m_W_basins]? = some (Cond.selects (mM_y m_W_basins).cls (mM_y m_W_basins) (mM_y m_W_basins)) ∧ lw_tbl[mM_p2 m_W_basins]? = some (Cond.instanceMethod (mM_y m_W_basins)) := by decide +kernel
theorem ok_Streams_run : mj_okA m_Streams_run = true := by decide +kernel
theorem se_Streams_run : lw_tbl[mM_p3 m_Streams_run]? = some (Cond.selects (mM_y m_Streams_run).cls (mM_y m_Streams_run) (mM_y m_Streams_run)) ∧ lw_tbl[mM_p2 m_Streams_run]? = some (Cond.instanceMethod (mM_y m_Streams_run)) := by decide +kernel
theorem ok_Streams_chooseDirection : mj_okA m_Streams_chooseDirection = true := by decide +kernel
theorem se_Streams_chooseDirection : lw_tbl[mM_p3 m_Streams_chooseDirection]? = some (Cond.selects (mM_y m_Streams_chooseDirection).cls (mM_y m_Streams_chooseDirection) (mM_y m_Streams_chooseDirection)) ∧ lw_tbl[mM_p2 m_Streams_chooseDirection]? = some (Cond.instanceMethod (mM_y m_Streams_chooseDirection)) := by decide +kernel
theorem ok_Streams_putInOrder : mj_okA m_Streams_putInOrder = true := by decide +kernel
theorem se_Streams_putInOrder : lw_tbl[mM_p3 m_Streams_putInOrder]? = some (Cond.selects (mM_y m_Streams_putInOrder).cls (mM_y m_Streams_putInOrder) (mM_y m_Streams_putInOrder)) ∧ lw_tbl[mM_p2 m_Streams_putInOrder]? = some (Cond.instanceMethod (mM_y m_Streams_putInOrder)) := by decide +kernel
theorem ok_Streams_putNext : mj_okA m_Streams_putNext = true := by decide +kernel
theorem se_Streams_putNext : lw_tbl[mM_p3 m_Streams_putNext]? = some (Cond.selects (mM_y m_Streams_putNext).cls (mM_y m_Streams_putNext) (mM_y m_Streams_putNext)) ∧ lw_tbl[mM_p2 m_Streams_putNext]? = some (Cond.instanceMethod (mM_y m_Streams_putNext)) := by decide +kernel
theorem ok_Streams_passDown : mj_okA m_Streams_passDown = true := by decide +kernel
theorem se_Streams_passDown : lw_tbl[mM_p3 m_Streams_passDown]? = some (Cond.selects (mM_y m_Streams_passDown).cls (mM_y m_Streams_passDown) (mM_y m_Streams_passDown)) ∧ lw_tbl[mM_p2 m_Streams_passDown]? = some (Cond.instanceMethod (mM_y m_Streams_passDown)) := by decide +kernel
theorem ok_Streams_findEnd : mj_okA m_Streams_findEnd = true := by decide +kernel
theorem se_Streams_findEnd : lw_tbl[mM_p3 m_Streams_findEnd]? = some (Cond.selects (mM_y m_Streams_findEnd).cls (mM_y m_Streams_findEnd) (mM_y m_Streams_findEnd)) ∧ lw_tbl[mM_p2 m_Streams_findEnd]? = some (Cond.instanceMethod (mM_y m_Streams_findEnd)) := by decide +kernel
theorem ok_Streams_count : mj_okA m_Streams_count = true := by decide +kernel
theorem se_Streams_count : lw_tbl[mM_p3 m_Streams_count]? = some (Cond.selects (mM_y m_Streams_count).cls (mM_y m_Streams_count) (mM_y m_Streams_count)) ∧ lw_tbl[mM_p2 m_Streams_count]? = some (Cond.instanceMethod (mM_y m_Streams_count)) := by decide +kernel
theorem ok_W_pits : mj_okA m_W_pits = true := by decide +kernel
theorem se_W_pits : lw_tbl[mM_p3 m_W_pits]? = some (Cond.selects (mM_y m_W_pits).cls (mM_y m_W_pits) (mM_y m_W_pits)) ∧ lw_tbl[mM_p2 m_W_pits]? = some (Cond.instanceMethod (mM_y m_W_pits)) := by decide +kernel
theorem ok_W_mostRank : mj_okA m_W_mostRank = true := by decide +kernel
theorem se_W_mostRank : lw_tbl[mM_p3 m_W_mostRank]? = some (Cond.selects (mM_y m_W_mostRank).cls (mM_y m_W_mostRank) (mM_y m_W_mostRank)) ∧ lw_tbl[mM_p2 m_W_mostRank]? = some (Cond.instanceMethod (mM_y m_W_mostRank)) := by decide +kernel
theorem ok_Streams_greatestOf : mj_okA m_Streams_greatestOf = true := by decide +kernel
theorem se_Streams_greatestOf : lw_tbl[mM_p3 m_Streams_greatestOf]? = some (Cond.selects (mM_y m_Streams_greatestOf).cls (mM_y m_Streams_greatestOf) (mM_y m_Streams_greatestOf)) ∧ lw_tbl[mM_p2 m_Streams_greatestOf]? = some (Cond.instanceMethod (mM_y m_Streams_greatestOf)) := by decide +kernel
theorem ok_W_longestStream : mj_okA m_W_longestStream = true := by decide +kernel
theorem se_W_longestStream : lw_tbl[mM_p3 m_W_longestStream]? = some (Cond.selects (mM_y m_W_longestStream).cls (mM_y m_W_longestStream) (mM_y m_W_longestStream)) ∧ lw_tbl[mM_p2 m_W_longestStream]? = some (Cond.instanceMethod (mM_y m_W_longestStream)) := by decide +kernel
theorem ok_W_lakes : mj_okA m_W_lakes = true := by decide +kernel
theorem se_W_lakes : lw_tbl[mM_p3 m_W_lakes]? = some (Cond.selects (mM_y m_W_lakes).cls (mM_y m_W_lakes) (mM_y m_W_lakes)) ∧ lw_tbl[mM_p2 m_W_lakes]? = some (Cond.instanceMethod (mM_y m_W_lakes)) := by decide +kernel
theorem ok_W_volume : mj_okA m_W_volume = true := by decide +kernel
theorem se_W_volume : lw_tbl[mM_p3 m_W_volume]? = some (Cond.selects (mM_y m_W_volume).cls (mM_y m_W_volume) (mM_y m_W_volume)) ∧ lw_tbl[mM_p2 m_W_volume]? = some (Cond.instanceMethod (mM_y m_W_volume)) := by decide +kernel
theorem ok_W_steepness : mj_okA m_W_steepness = true := by decide +kernel
theorem se_W_steepness : lw_tbl[mM_p3 m_W_steepness]? = some (Cond.selects (mM_y m_W_steepness).cls (mM_y m_W_steepness) (mM_y m_W_steepness)) ∧ lw_tbl[mM_p2 m_W_steepness]? = some (Cond.instanceMethod (mM_y m_W_steepness)) := by decide +kernel
theorem ok_W_digest : mj_okA m_W_digest = true := by decide +kernel
theorem se_W_digest : lw_tbl[mM_p3 m_W_digest]? = some (Cond.selects (mM_y m_W_digest).cls (mM_y m_W_digest) (mM_y m_W_digest)) ∧ lw_tbl[mM_p2 m_W_digest]? = some (Cond.instanceMethod (mM_y m_W_digest)) := by decide +kernel
theorem ok_W_digestOfMap : mj_okA m_W_digestOfMap = true := by decide +kernel
theorem se_W_digestOfMap : lw_tbl[mM_p3 m_W_digestOfMap]? = some (Cond.selects (mM_y m_W_digestOfMap).cls (mM_y m_W_digestOfMap) (mM_y m_W_digestOfMap)) ∧ lw_tbl[mM_p2 m_W_digestOfMap]? = some (Cond.instanceMethod (mM_y m_W_digestOfMap)) := by decide +kernel
theorem ok_Contours_draw : mj_okA m_Contours_draw = true := by decide +kernel
theorem se_Contours_draw : lw_tbl[mM_p3 m_Contours_draw]? = some (Cond.selects (mM_y m_Contours_draw).cls (mM_y m_Contours_draw) (mM_y m_Contours_draw)) ∧ lw_tbl[mM_p2 m_Contours_draw]? = some (Cond.instanceMethod (mM_y m_Contours_draw)) := by decide +kernel
theorem ok_Contours_drawSquare : mj_okA m_Contours_drawSquare = true := by decide +kernel
theorem se_Contours_drawSquare : lw_tbl[mM_p3 m_Contours_drawSquare]? = some (Cond.selects (mM_y m_Contours_drawSquare).cls (mM_y m_Contours_drawSquare) (mM_y m_Contours_drawSquare)) ∧ lw_tbl[mM_p2 m_Contours_drawSquare]? = some (Cond.instanceMethod (mM_y m_Contours_drawSquare)) := by decide +kernel
theorem ok_Contours_sideRightOf : mj_okA m_Contours_sideRightOf = true := by decide +kernel
theorem st_Contours_sideRightOf : lw_tbl[mM_p2 m_Contours_sideRightOf]? = some (Cond.static (mM_y m_Contours_sideRightOf)) := by decide +kernel
theorem ok_Contours_sideBelow : mj_okA m_Contours_sideBelow = true := by decide +kernel
theorem st_Contours_sideBelow : lw_tbl[mM_p2 m_Contours_sideBelow]? = some (Cond.static (mM_y m_Contours_sideBelow)) := by decide +kernel
theorem ok_Contours_sumOfSquare : mj_okA m_Contours_sumOfSquare = true := by decide +kernel
theorem se_Contours_sumOfSquare : lw_tbl[mM_p3 m_Contours_sumOfSquare]? = some (Cond.selects (mM_y m_Contours_sumOfSquare).cls (mM_y m_Contours_sumOfSquare) (mM_y m_Contours_sumOfSquare)) ∧ lw_tbl[mM_p2 m_Contours_sumOfSquare]? = some (Cond.instanceMethod (mM_y m_Contours_sumOfSquare)) := by decide +kernel
theorem ok_Contours_addPiece : mj_okA m_Contours_addPiece = true := by decide +kernel
theorem se_Contours_addPiece : lw_tbl[mM_p3 m_Contours_addPiece]? = some (Cond.selects (mM_y m_Contours_addPiece).cls (mM_y m_Contours_addPiece) (mM_y m_Contours_addPiece)) ∧ lw_tbl[mM_p2 m_Contours_addPiece]? = some (Cond.instanceMethod (mM_y m_Contours_addPiece)) := by decide +kernel
theorem ok_Contours_tie : mj_okA m_Contours_tie = true := by decide +kernel
theorem se_Contours_tie : lw_tbl[mM_p3 m_Contours_tie]? = some (Cond.selects (mM_y m_Contours_tie).cls (mM_y m_Contours_tie) (mM_y m_Contours_tie)) ∧ lw_tbl[mM_p2 m_Contours_tie]? = some (Cond.instanceMethod (mM_y m_Contours_tie)) := by decide +kernel
theorem ok_Contours_told : mj_okA m_Contours_told = true := by decide +kernel
theorem se_Contours_told : lw_tbl[mM_p3 m_Contours_told]? = some (Cond.selects (mM_y m_Contours_told).cls (mM_y m_Contours_told) (mM_y m_Contours_told)) ∧ lw_tbl[mM_p2 m_Contours_told]? = some (Cond.instanceMethod (mM_y m_Contours_told)) := by decide +kernel
theorem ok_W_digestOfFields : mj_okA m_W_digestOfFields = true := by decide +kernel
theorem se_W_digestOfFields : lw_tbl[mM_p3 m_W_digestOfFields]? = some (Cond.selects (mM_y m_W_digestOfFields).cls (mM_y m_W_digestOfFields) (mM_y m_W_digestOfFields)) ∧ lw_tbl[mM_p2 m_W_digestOfFields]? = some (Cond.instanceMethod (mM_y m_W_digestOfFields)) := by decide +kernel
theorem ok_Streams_told : mj_okA m_Streams_told = true := by decide +kernel
theorem se_Streams_told : lw_tbl[mM_p3 m_Streams_told]? = some (Cond.selects (mM_y m_Streams_told).cls (mM_y m_Streams_told) (mM_y m_Streams_told)) ∧ lw_tbl[mM_p2 m_Streams_told]? = some (Cond.instanceMethod (mM_y m_Streams_told)) := by decide +kernel
theorem ok_W_reset : mj_okA m_W_reset = true := by decide +kernel
theorem se_W_reset : lw_tbl[mM_p3 m_W_reset]? = some (Cond.selects (mM_y m_W_reset).cls (mM_y m_W_reset) (mM_y m_W_reset)) ∧ lw_tbl[mM_p2 m_W_reset]? = some (Cond.instanceMethod (mM_y m_W_reset)) := by decide +kernel
theorem ok_W_checkRange : mj_okA m_W_checkRange = true := by decide +kernel
theorem st_W_checkRange : lw_tbl[mM_p2 m_W_checkRange]? = some (Cond.static (mM_y m_W_checkRange)) := by decide +kernel
theorem ok_W_set : mj_okA m_W_set = true := by decide +kernel
theorem se_W_set : lw_tbl[mM_p3 m_W_set]? = some (Cond.selects (mM_y m_W_set).cls (mM_y m_W_set) (mM_y m_W_set)) ∧ lw_tbl[mM_p2 m_W_set]? = some (Cond.instanceMethod (mM_y m_W_set)) := by decide +kernel
theorem ok_W_checkField : mj_okA m_W_checkField = true := by decide +kernel
theorem se_W_checkField : lw_tbl[mM_p3 m_W_checkField]? = some (Cond.selects (mM_y m_W_checkField).cls (mM_y m_W_checkField) (mM_y m_W_checkField)) ∧ lw_tbl[mM_p2 m_W_checkField]? = some (Cond.instanceMethod (mM_y m_W_checkField)) := by decide +kernel
theorem ok_W_tilt : mj_okA m_W_tilt = true := by decide +kernel
theorem se_W_tilt : lw_tbl[mM_p3 m_W_tilt]? = some (Cond.selects (mM_y m_W_tilt).cls (mM_y m_W_tilt) (mM_y m_W_tilt)) ∧ lw_tbl[mM_p2 m_W_tilt]? = some (Cond.instanceMethod (mM_y m_W_tilt)) := by decide +kernel
theorem ok_W_hill : mj_okA m_W_hill = true := by decide +kernel
theorem se_W_hill : lw_tbl[mM_p3 m_W_hill]? = some (Cond.selects (mM_y m_W_hill).cls (mM_y m_W_hill) (mM_y m_W_hill)) ∧ lw_tbl[mM_p2 m_W_hill]? = some (Cond.instanceMethod (mM_y m_W_hill)) := by decide +kernel
theorem ok_W_dig : mj_okA m_W_dig = true := by decide +kernel
theorem se_W_dig : lw_tbl[mM_p3 m_W_dig]? = some (Cond.selects (mM_y m_W_dig).cls (mM_y m_W_dig) (mM_y m_W_dig)) ∧ lw_tbl[mM_p2 m_W_dig]? = some (Cond.instanceMethod (mM_y m_W_dig)) := by decide +kernel
theorem ok_W_wear : mj_okA m_W_wear = true := by decide +kernel
theorem se_W_wear : lw_tbl[mM_p3 m_W_wear]? = some (Cond.selects (mM_y m_W_wear).cls (mM_y m_W_wear) (mM_y m_W_wear)) ∧ lw_tbl[mM_p2 m_W_wear]? = some (Cond.instanceMethod (mM_y m_W_wear)) := by decide +kernel
theorem ok_W_setBrook : mj_okA m_W_setBrook = true := by decide +kernel
theorem se_W_setBrook : lw_tbl[mM_p3 m_W_setBrook]? = some (Cond.selects (mM_y m_W_setBrook).cls (mM_y m_W_setBrook) (mM_y m_W_setBrook)) ∧ lw_tbl[mM_p2 m_W_setBrook]? = some (Cond.instanceMethod (mM_y m_W_setBrook)) := by decide +kernel
theorem ok_W_map : mj_okA m_W_map = true := by decide +kernel
theorem se_W_map : lw_tbl[mM_p3 m_W_map]? = some (Cond.selects (mM_y m_W_map).cls (mM_y m_W_map) (mM_y m_W_map)) ∧ lw_tbl[mM_p2 m_W_map]? = some (Cond.instanceMethod (mM_y m_W_map)) := by decide +kernel
theorem ok_W_height : mj_okA m_W_height = true := by decide +kernel
theorem se_W_height : lw_tbl[mM_p3 m_W_height]? = some (Cond.selects (mM_y m_W_height).cls (mM_y m_W_height) (mM_y m_W_height)) ∧ lw_tbl[mM_p2 m_W_height]? = some (Cond.instanceMethod (mM_y m_W_height)) := by decide +kernel
theorem ok_W_water : mj_okA m_W_water = true := by decide +kernel
theorem se_W_water : lw_tbl[mM_p3 m_W_water]? = some (Cond.selects (mM_y m_W_water).cls (mM_y m_W_water) (mM_y m_W_water)) ∧ lw_tbl[mM_p2 m_W_water]? = some (Cond.instanceMethod (mM_y m_W_water)) := by decide +kernel
theorem ok_W_level : mj_okA m_W_level = true := by decide +kernel
theorem se_W_level : lw_tbl[mM_p3 m_W_level]? = some (Cond.selects (mM_y m_W_level).cls (mM_y m_W_level) (mM_y m_W_level)) ∧ lw_tbl[mM_p2 m_W_level]? = some (Cond.instanceMethod (mM_y m_W_level)) := by decide +kernel
theorem ok_W_lake : mj_okA m_W_lake = true := by decide +kernel
theorem se_W_lake : lw_tbl[mM_p3 m_W_lake]? = some (Cond.selects (mM_y m_W_lake).cls (mM_y m_W_lake) (mM_y m_W_lake)) ∧ lw_tbl[mM_p2 m_W_lake]? = some (Cond.instanceMethod (mM_y m_W_lake)) := by decide +kernel
theorem ok_W_contour : mj_okA m_W_contour = true := by decide +kernel
theorem se_W_contour : lw_tbl[mM_p3 m_W_contour]? = some (Cond.selects (mM_y m_W_contour).cls (mM_y m_W_contour) (mM_y m_W_contour)) ∧ lw_tbl[mM_p2 m_W_contour]? = some (Cond.instanceMethod (mM_y m_W_contour)) := by decide +kernel
theorem ok_W_sees : mj_okA m_W_sees = true := by decide +kernel
theorem se_W_sees : lw_tbl[mM_p3 m_W_sees]? = some (Cond.selects (mM_y m_W_sees).cls (mM_y m_W_sees) (mM_y m_W_sees)) ∧ lw_tbl[mM_p2 m_W_sees]? = some (Cond.instanceMethod (mM_y m_W_sees)) := by decide +kernel
theorem ok_W_seen : mj_okA m_W_seen = true := by decide +kernel
theorem se_W_seen : lw_tbl[mM_p3 m_W_seen]? = some (Cond.selects (mM_y m_W_seen).cls (mM_y m_W_seen) (mM_y m_W_seen)) ∧ lw_tbl[mM_p2 m_W_seen]? = some (Cond.instanceMethod (mM_y m_W_seen)) := by decide +kernel
theorem ok_W_takes : mj_okA m_W_takes = true := by decide +kernel
theorem se_W_takes : lw_tbl[mM_p3 m_W_takes]? = some (Cond.selects (mM_y m_W_takes).cls (mM_y m_W_takes) (mM_y m_W_takes)) ∧ lw_tbl[mM_p2 m_W_takes]? = some (Cond.instanceMethod (mM_y m_W_takes)) := by decide +kernel
theorem ok_Ways_spreadFrom : mj_okA m_Ways_spreadFrom = true := by decide +kernel
theorem se_Ways_spreadFrom : lw_tbl[mM_p3 m_Ways_spreadFrom]? = some (Cond.selects (mM_y m_Ways_spreadFrom).cls (mM_y m_Ways_spreadFrom) (mM_y m_Ways_spreadFrom)) ∧ lw_tbl[mM_p2 m_Ways_spreadFrom]? = some (Cond.instanceMethod (mM_y m_Ways_spreadFrom)) := by decide +kernel
theorem ok_Ways_spread : mj_okA m_Ways_spread = true := by decide +kernel
theorem se_Ways_spread : lw_tbl[mM_p3 m_Ways_spread]? = some (Cond.selects (mM_y m_Ways_spread).cls (mM_y m_Ways_spread) (mM_y m_Ways_spread)) ∧ lw_tbl[mM_p2 m_Ways_spread]? = some (Cond.instanceMethod (mM_y m_Ways_spread)) := by decide +kernel
theorem ok_Ways_step : mj_okA m_Ways_step = true := by decide +kernel
theorem se_Ways_step : lw_tbl[mM_p3 m_Ways_step]? = some (Cond.selects (mM_y m_Ways_step).cls (mM_y m_Ways_step) (mM_y m_Ways_step)) ∧ lw_tbl[mM_p2 m_Ways_step]? = some (Cond.instanceMethod (mM_y m_Ways_step)) := by decide +kernel
theorem ok_W_way : mj_okA m_W_way = true := by decide +kernel
theorem se_W_way : lw_tbl[mM_p3 m_W_way]? = some (Cond.selects (mM_y m_W_way).cls (mM_y m_W_way) (mM_y m_W_way)) ∧ lw_tbl[mM_p2 m_W_way]? = some (Cond.instanceMethod (mM_y m_W_way)) := by decide +kernel
theorem ok_Ways_goBack : mj_okA m_Ways_goBack = true := by decide +kernel
theorem se_Ways_goBack : lw_tbl[mM_p3 m_Ways_goBack]? = some (Cond.selects (mM_y m_Ways_goBack).cls (mM_y m_Ways_goBack) (mM_y m_Ways_goBack)) ∧ lw_tbl[mM_p2 m_Ways_goBack]? = some (Cond.instanceMethod (mM_y m_Ways_goBack)) := by decide +kernel
theorem ok_Ways_fieldAhead : mj_okA m_Ways_fieldAhead = true := by decide +kernel
theorem se_Ways_fieldAhead : lw_tbl[mM_p3 m_Ways_fieldAhead]? = some (Cond.selects (mM_y m_Ways_fieldAhead).cls (mM_y m_Ways_fieldAhead) (mM_y m_Ways_fieldAhead)) ∧ lw_tbl[mM_p2 m_Ways_fieldAhead]? = some (Cond.instanceMethod (mM_y m_Ways_fieldAhead)) := by decide +kernel
theorem ok_W_volumeWith : mj_okA m_W_volumeWith = true := by decide +kernel
theorem se_W_volumeWith : lw_tbl[mM_p3 m_W_volumeWith]? = some (Cond.selects (mM_y m_W_volumeWith).cls (mM_y m_W_volumeWith) (mM_y m_W_volumeWith)) ∧ lw_tbl[mM_p2 m_W_volumeWith]? = some (Cond.instanceMethod (mM_y m_W_volumeWith)) := by decide +kernel
theorem ok_W_endsWith : mj_okA m_W_endsWith = true := by decide +kernel
theorem se_W_endsWith : lw_tbl[mM_p3 m_W_endsWith]? = some (Cond.selects (mM_y m_W_endsWith).cls (mM_y m_W_endsWith) (mM_y m_W_endsWith)) ∧ lw_tbl[mM_p2 m_W_endsWith]? = some (Cond.instanceMethod (mM_y m_W_endsWith)) := by decide +kernel
theorem ok_W_lookout : mj_okA m_W_lookout = true := by decide +kernel
theorem se_W_lookout : lw_tbl[mM_p3 m_W_lookout]? = some (Cond.selects (mM_y m_W_lookout).cls (mM_y m_W_lookout) (mM_y m_W_lookout)) ∧ lw_tbl[mM_p2 m_W_lookout]? = some (Cond.instanceMethod (mM_y m_W_lookout)) := by decide +kernel
end
section
/-! REACHING one configuration from another; the class's cells as they lie after its constructor -/
def mj_Rc (M : mj_M) (RC RS dd : Nat) (g g' : mj_S) : Prop := ∀ κ : mj_K, mj_X M RC RS dd κ → mj_G κ g' → mj_G κ g
theorem r_rf {M : mj_M} {RC RS dd : Nat} {g : mj_S} : mj_Rc M RC RS dd g g := fun _ _ h => h
theorem r_tr {M : mj_M} {RC RS dd : Nat} {g1 g2 g3 : mj_S} (h1 : mj_Rc M RC RS dd g1 g2) (h2 : mj_Rc M RC RS dd g2 g3) : mj_Rc M RC RS dd g1 g3 := fun κ hX k => h1 κ hX (h2 κ hX k)
theorem r_to {M : mj_M} {RC RS dd : Nat} (hA : mj_okA M = true) (stop : Nat) (ds : List Bool) {g g' : mj_S} {P : Prop} (h : mj_run (mj_cd M) RC RS stop 200 ds g = some (P, g')) (hP : P) : mj_Rc M RC RS dd g g' := fun _ hX k => g_to hX hA stop ds h hP k
theorem r_V {M M' : mj_M} {RC RS dd : Nat} (hA : mj_okA M = true) (hA' : mj_okA M' = true) (hsel : lw_tbl[mM_p3 M']? = some (Cond.selects (mM_y M').cls (mM_y M') (mM_y M')) ∧ lw_tbl[mM_p2 M']? = some (Cond.instanceMethod (mM_y M'))) {pc q : Nat} {L As rest : List Value} {h h' : mj_H} {cc cs mc ms d : Nat} {r : Option Value} (hC : mj_Ct M' (.ref q :: As) h r h' mc ms d) (hi : mj_isV (mj_cd M pc) M' = true) (hn : As.length = mM_np M') (hrc : mj_rcv h q M' = true) (hw : Nat.ble ((rest.map fun v => v.category).sum) 8 = true) (hroom : Nat.ble (cc + mc) RC = true ∧ Nat.ble (cs + ms) RS = true ∧ Nat.blt d dd = true) : mj_Rc M RC RS dd (pc, L, As.reverse ++ .ref q :: rest, h, cc, cs) (pc + 3, L, r.toList ++ rest, h', cc + mc, cs + ms) := fun _ hX k => g_callV hX hA hA' hC hi hsel rfl hn hrc hw hroom k
theorem r_S {M M' : mj_M} {RC RS dd : Nat} (hA : mj_okA M = true) (hA' : mj_okA M' = true) (hsta : lw_tbl[mM_p2 M']? = some (Cond.static (mM_y M'))) {pc : Nat} {L As rest : List Value} {h h' : mj_H} {cc cs mc ms d : Nat} {r : Option Value} (hC : mj_Ct M' As h r h' mc ms d) (hi : mj_isS (mj_cd M pc) M' = true) (hn : As.length = mM_np M') (hw : Nat.ble ((rest.map fun v => v.category).sum) 8 = true) (hroom : Nat.ble (cc + mc) RC = true ∧ Nat.ble (cs + ms) RS = true ∧ Nat.blt d dd = true) : mj_Rc M RC RS dd (pc, L, As.reverse ++ rest, h, cc, cs) (pc + 3, L, r.toList ++ rest, h', cc + mc, cs + ms) := fun _ hX k => g_callS hX hA hA' hC hi hsta rfl hn hw hroom k
theorem r_I {M M' : mj_M} {RC RS dd : Nat} (hA : mj_okA M = true) (hA' : mj_okA M' = true) (hin : lw_tbl[mM_p2 M']? = some (Cond.instanceMethod (mM_y M')) ∧ mM_ret M' = none ∧ mj_ini M' = true) {pc q : Nat} {L As rest : List Value} {h h' : mj_H} {cc cs mc ms d : Nat} (hC : mj_Ct M' (.ref q :: As) h none h' mc ms d) (hi : mj_isI (mj_cd M pc) M' = true) (hn : As.length = mM_np M') (hw : Nat.ble ((rest.map fun v => v.category).sum) 8 = true) (hroom : Nat.ble (cc + mc) RC = true ∧ Nat.ble (cs + ms) RS = true ∧ Nat.blt d dd = true) : mj_Rc M RC RS dd (pc, L, As.reverse ++ .ref q :: rest, h, cc, cs) (pc + 3, L, rest, h', cc + mc, cs + ms) := fun _ hX k => g_callI hX hA hA' hC hi hin.1 hin.2.1 hin.2.2 rfl hn hw hroom k
theorem r_O {M : mj_M} {RC RS dd : Nat} (hA : mj_okA M = true) {pc q : Nat} {L rest : List Value} {h : mj_H} {cc cs : Nat} (hi : mj_isO (mj_cd M pc) = true) (hw : Nat.ble ((rest.map fun v => v.category).sum) 8 = true) (hd : Nat.blt 0 dd = true) : mj_Rc M RC RS dd (pc, L, .ref q :: rest, h, cc, cs) (pc + 3, L, rest, h, cc, cs) := fun _ hX k => g_obj hX hA hi hw hd k
theorem ct_of {M : mj_M} (hA : mj_okA M = true) {as : List Value} {h : mj_H} {r : Option Value} {h' : mj_H} {mc ms d : Nat} {pc : Nat} {L st : List Value} {cc cs : Nat} {i : mj_I} (hl : Nat.ble (lg_sl as).length (mM_nl M) = true) (hR : mj_Rc M mc ms d (0, mj_ent as (mM_nl M), [], h, 0, 0) (pc, L, st, h', cc, cs)) (hst : st = r.toList) (hi : mj_cd M pc = some i) (hr : mj_isR (mM_ret M) r i) (hc : Nat.ble cc mc = true) (hs : Nat.ble cs ms = true) : mj_Ct M as h r h' mc ms d := mj_intro hA hl fun κ hX hF => hR κ hX (g_ret hF hi hr hst hc hs)
/-- as they lie: the static arrays and the script, then the class's objects and arrays in the order in which its constructor makes them; A: what the arrays hold, V: what the fields hold -/
abbrev mj_ia (N : Nat) (f : Nat → Int32) : mj_Cl := .inl (.int, N, .inl f)
def Wd (xs : Nat → Int32) (L : Nat) (A : Nat → Nat → Int32) (V : Nat → Int32) (Y : mj_H) : mj_H :=
  mj_pre xs L (
  .inr (8, [.ref (mj_NE + 1), .ref (mj_NE + 5), .ref (mj_NE + 16), .ref (mj_NE + 22), .ref (mj_NE + 26), .ref (mj_NE + 27), .ref (mj_NE + 31), .int (V 10)]) ::
  .inr (4, [.ref (mj_NE + 2), .ref (mj_NE + 3), .ref (mj_NE + 4), .int (V 0), .int (V 1), .int (V 2)]) ::
  mj_ia 256 (A 0) :: mj_ia 256 (A 1) :: mj_ia 2048 (A 2) ::
  .inr (6, [.ref (mj_NE + 1), .ref (mj_NE + 6), .ref (mj_NE + 7), .ref (mj_NE + 8), .ref (mj_NE + 9), .ref (mj_NE + 10), .ref (mj_NE + 11), .ref (mj_NE + 12), .ref (mj_NE + 13), .ref (mj_NE + 14), .ref (mj_NE + 15), .int (V 3)]) ::
  mj_ia 256 (A 3) :: mj_ia 256 (A 4) :: mj_ia 256 (A 5) :: mj_ia 256 (A 6) :: mj_ia 256 (A 7) :: mj_ia 256 (A 8) :: mj_ia 256 (A 9) :: mj_ia 256 (A 10) :: .inl (.boolean, 256, .inl (A 11)) :: mj_ia 256 (A 12) ::
  .inr (3, [.ref (mj_NE + 1), .ref (mj_NE + 17), .ref (mj_NE + 18), .ref (mj_NE + 20), .int (V 4)]) ::
  mj_ia 256 (A 13) :: .inr (1, [.ref (mj_NE + 19), .int (V 5)]) :: mj_ia 256 (A 14) :: .inr (2, [.ref (mj_NE + 21)]) :: mj_ia 512 (A 15) ::
  .inr (0, [.ref (mj_NE + 1), .ref (mj_NE + 23), .ref (mj_NE + 24), .int (V 6), .int (V 7), .int (V 8)]) ::
  mj_ia 512 (A 16) :: .inr (2, [.ref (mj_NE + 25)]) :: mj_ia 512 (A 17) ::
  .inr (5, [.ref (mj_NE + 1)]) ::
  .inr (7, [.ref (mj_NE + 1), .ref (mj_NE + 28), .ref (mj_NE + 29)]) :: mj_ia 256 (A 18) :: .inr (1, [.ref (mj_NE + 30), .int (V 9)]) :: mj_ia 256 (A 19) ::
  mj_ia 256 (A 20) :: Y)
abbrev wA (A : Nat → Nat → Int32) (k : Nat) (f : Nat → Int32) : Nat → Nat → Int32 := va_up A k f
abbrev wV (V : Nat → Int32) (k : Nat) (x : Int32) : Nat → Int32 := va_up V k x
section LAND
variable {xs : Nat → Int32} {L : Nat} {A : Nat → Nat → Int32} {V : Nat → Int32} {Y : mj_H}
theorem c_numberOf {x y : Int32} : mj_Ct m_Land_numberOf [.ref (mj_NE + 1), .int x, .int y] (Wd xs L A V Y) (some (.int (y * V 0 + x))) (Wd xs L A V Y) 0 0 0 :=
  ct_of ok_Land_numberOf rfl (r_to ok_Land_numberOf 9999 [] rfl trivial) rfl rfl rfl rfl rfl
theorem c_neighbour {x d : Int32} (h : vp_in (x * 8 + d) 2048) : mj_Ct m_Land_neighbour [.ref (mj_NE + 1), .int x, .int d] (Wd xs L A V Y) (some (.int (A 2 (x * 8 + d).toNatClampNeg))) (Wd xs L A V Y) 0 0 0 :=
  ct_of ok_Land_neighbour rfl (r_to ok_Land_neighbour 9999 [] rfl ⟨h, trivial⟩) rfl rfl rfl rfl rfl
end LAND
end
section
/-! WHOLE NUMBERS on the machine: iI z is the 32-bit number of z -/
def iI (z : Int) : Int32 := Int32.ofInt z
def lI (z : Int) : Int64 := Int64.ofInt z
theorem iI_toInt {z : Int} (h1 : -2147483648 ≤ z) (h2 : z ≤ 2147483647) : (iI z).toInt = z := by
  unfold iI
  rw [Int32.toInt_ofInt_of_le (by omega) (by omega)]
theorem iI_add (a b : Int) : iI a + iI b = iI (a + b) := (Int32.ofInt_add a b).symm
theorem iI_mul (a b : Int) : iI a * iI b = iI (a * b) := (Int32.ofInt_mul a b).symm
theorem iI_neg (a : Int) : -iI a = iI (-a) := (Int32.ofInt_neg a).symm
theorem iI_sub (a b : Int) : iI a - iI b = iI (a - b) := by
  rw [Int32.sub_eq_add_neg, iI_neg, iI_add, Int.sub_eq_add_neg]
theorem iI_nat (n : Nat) : (OfNat.ofNat n : Int32) = iI (OfNat.ofNat n) := by
  show Int32.ofNat n = Int32.ofInt (n : Int)
  exact (Int32.ofInt_eq_ofNat).symm
theorem iI_lt {a b : Int} (h1 : -2147483648 ≤ a ∧ a ≤ 2147483647) (h2 : -2147483648 ≤ b ∧ b ≤ 2147483647) : iI a < iI b ↔ a < b := by
  rw [Int32.lt_iff_toInt_lt, iI_toInt h1.1 h1.2, iI_toInt h2.1 h2.2]
theorem iI_le {a b : Int} (h1 : -2147483648 ≤ a ∧ a ≤ 2147483647) (h2 : -2147483648 ≤ b ∧ b ≤ 2147483647) : iI a ≤ iI b ↔ a ≤ b := by
  rw [Int32.le_iff_toInt_le, iI_toInt h1.1 h1.2, iI_toInt h2.1 h2.2]
theorem iI_eq {a b : Int} (h1 : -2147483648 ≤ a ∧ a ≤ 2147483647) (h2 : -2147483648 ≤ b ∧ b ≤ 2147483647) : iI a = iI b ↔ a = b := by
  constructor
  · intro h
    have := congrArg Int32.toInt h
    rwa [iI_toInt h1.1 h1.2, iI_toInt h2.1 h2.2] at this
  · exact fun h => by rw [h]
theorem iI_cl {a : Int} (h1 : 0 ≤ a) (h2 : a ≤ 2147483647) : (iI a).toNatClampNeg = a.toNat := by
  show (iI a).toInt.toNat = a.toNat
  rw [iI_toInt (by omega) h2]
theorem iI_in {a : Int} {N : Nat} (h1 : -2147483648 ≤ a ∧ a ≤ 2147483647) : vp_in (iI a) N ↔ 0 ≤ a ∧ a < N := by
  rw [vp_in_iff, iI_toInt h1.1 h1.2]
theorem iI_div {a b : Int} (h1 : -2147483648 ≤ a ∧ a ≤ 2147483647) (h2 : 0 < b ∧ b ≤ 2147483647) : iI a / iI b = iI (a.tdiv b) := by
  apply Int32.toInt_inj.mp
  have hb : -2147483648 ≤ a.tdiv b ∧ a.tdiv b ≤ 2147483647 := by
    have h3 := Int.natAbs_tdiv_le_natAbs a b
    rcases Int.le_total 0 a with h | h
    · have := Int.tdiv_nonneg h (Int.le_of_lt h2.1)
      omega
    · have := Int.tdiv_nonneg (a := -a) (b := b) (by omega) (Int.le_of_lt h2.1)
      rw [Int.neg_tdiv] at this
      omega
  rw [Int32.toInt_div, iI_toInt h1.1 h1.2, iI_toInt (by omega) h2.2, iI_toInt hb.1 hb.2]
  rw [Int.bmod_eq_of_le (by omega) (by omega)]
theorem iI_rem {a b : Int} (h1 : -2147483648 ≤ a ∧ a ≤ 2147483647) (h2 : 0 < b ∧ b ≤ 2147483647) : iI a - iI a / iI b * iI b = iI (a.tmod b) := by
  rw [iI_div h1 h2, iI_mul, iI_sub]
  congr 1
  have := Int.mul_tdiv_add_tmod a b
  rw [Int.mul_comm] at this
  omega
theorem iI_l {a : Int} (h1 : -2147483648 ≤ a ∧ a ≤ 2147483647) : (iI a).toInt64 = lI a := by
  apply Int64.toInt_inj.mp
  rw [Int32.toInt_toInt64, iI_toInt h1.1 h1.2]
  unfold lI
  rw [Int64.toInt_ofInt_of_le (by omega) (by omega)]
theorem lI_add (a b : Int) : lI a + lI b = lI (a + b) := (Int64.ofInt_add a b).symm
theorem lI_mul (a b : Int) : lI a * lI b = lI (a * b) := (Int64.ofInt_mul a b).symm
theorem iI_nz {z : Int} (h : -2147483648 ≤ z ∧ z ≤ 2147483647) (h0 : z ≠ 0) : ¬ iI z = iI 0 := fun q => h0 ((iI_eq h ⟨by omega, by omega⟩).mp q)
theorem nI_iI (n : Nat) : nI n = iI n := by
  show Int32.ofNat n = Int32.ofInt (n : Int)
  exact (Int32.ofInt_eq_ofNat).symm
theorem iI_1 (a : Int) : iI a + 1 = iI (a + 1) := iI_add a 1
theorem iI_neg1 : (-1 : Int32) = iI (-1) := by decide +kernel
theorem iI_m1 (a : Int) : iI a + (-1) = iI (a - 1) := by rw [iI_neg1, iI_add]; rfl
/-- a run whose end is told otherwise -/
theorem r_eq {M : mj_M} {RC RS dd : Nat} {g g1 g2 : mj_S} (h : mj_Rc M RC RS dd g g1) (e : g1 = g2) : mj_Rc M RC RS dd g g2 := e ▸ h
end
section
/-! calls with the stack as it stands -/
theorem q_V {M M' : mj_M} {RC RS dd : Nat} (hA : mj_okA M = true) (hA' : mj_okA M' = true) (hsel : lw_tbl[mM_p3 M']? = some (Cond.selects (mM_y M').cls (mM_y M') (mM_y M')) ∧ lw_tbl[mM_p2 M']? = some (Cond.instanceMethod (mM_y M'))) {pc q : Nat} {L As st rest : List Value} {h h' : mj_H} {cc cs mc ms d : Nat} {r : Option Value} (hC : mj_Ct M' (.ref q :: As) h r h' mc ms d) (hst : st = As.reverse ++ .ref q :: rest) (hi : mj_isV (mj_cd M pc) M' = true) (hn : As.length = mM_np M') (hrc : mj_rcv h q M' = true) (hw : Nat.ble ((rest.map fun v => v.category).sum) 8 = true) (hroom : Nat.ble (cc + mc) RC = true ∧ Nat.ble (cs + ms) RS = true ∧ Nat.blt d dd = true) : mj_Rc M RC RS dd (pc, L, st, h, cc, cs) (pc + 3, L, r.toList ++ rest, h', cc + mc, cs + ms) := fun _ hX k => g_callV hX hA hA' hC hi hsel hst hn hrc hw hroom k
theorem q_S {M M' : mj_M} {RC RS dd : Nat} (hA : mj_okA M = true) (hA' : mj_okA M' = true) (hsta : lw_tbl[mM_p2 M']? = some (Cond.static (mM_y M'))) {pc : Nat} {L As st rest : List Value} {h h' : mj_H} {cc cs mc ms d : Nat} {r : Option Value} (hC : mj_Ct M' As h r h' mc ms d) (hst : st = As.reverse ++ rest) (hi : mj_isS (mj_cd M pc) M' = true) (hn : As.length = mM_np M') (hw : Nat.ble ((rest.map fun v => v.category).sum) 8 = true) (hroom : Nat.ble (cc + mc) RC = true ∧ Nat.ble (cs + ms) RS = true ∧ Nat.blt d dd = true) : mj_Rc M RC RS dd (pc, L, st, h, cc, cs) (pc + 3, L, r.toList ++ rest, h', cc + mc, cs + ms) := fun _ hX k => g_callS hX hA hA' hC hi hsta hst hn hw hroom k
theorem q_I {M M' : mj_M} {RC RS dd : Nat} (hA : mj_okA M = true) (hA' : mj_okA M' = true) (hin : lw_tbl[mM_p2 M']? = some (Cond.instanceMethod (mM_y M')) ∧ mM_ret M' = none ∧ mj_ini M' = true) {pc q : Nat} {L As st rest : List Value} {h h' : mj_H} {cc cs mc ms d : Nat} (hC : mj_Ct M' (.ref q :: As) h none h' mc ms d) (hst : st = As.reverse ++ .ref q :: rest) (hi : mj_isI (mj_cd M pc) M' = true) (hn : As.length = mM_np M') (hw : Nat.ble ((rest.map fun v => v.category).sum) 8 = true) (hroom : Nat.ble (cc + mc) RC = true ∧ Nat.ble (cs + ms) RS = true ∧ Nat.blt d dd = true) : mj_Rc M RC RS dd (pc, L, st, h, cc, cs) (pc + 3, L, rest, h', cc + mc, cs + ms) := fun _ hX k => g_callI hX hA hA' hC hi hin.1 hin.2.1 hin.2.2 hst hn hw hroom k
/-! java.lang.Math -/
section MATH
variable {h : mj_H} {a b : Int}
theorem c_max (ha : -2147483648 ≤ a ∧ a ≤ 2147483647) (hb : -2147483648 ≤ b ∧ b ≤ 2147483647) : mj_Ct m_Math_max [.int (iI a), .int (iI b)] h (some (.int (iI (max a b)))) h 0 0 0 := by
  by_cases hc : a < b
  · rw [Int.max_eq_right (by omega)]
    exact ct_of ok_Math_max rfl (r_to ok_Math_max 9999 [true] rfl ⟨(iI_lt ha hb).mpr hc, trivial⟩) rfl rfl rfl rfl rfl
  · rw [Int.max_eq_left (by omega)]
    exact ct_of ok_Math_max rfl (r_to ok_Math_max 9999 [false] rfl ⟨fun q => hc ((iI_lt ha hb).mp q), trivial⟩) rfl rfl rfl rfl rfl
theorem c_min (ha : -2147483648 ≤ a ∧ a ≤ 2147483647) (hb : -2147483648 ≤ b ∧ b ≤ 2147483647) : mj_Ct m_Math_min [.int (iI a), .int (iI b)] h (some (.int (iI (min a b)))) h 0 0 0 := by
  by_cases hc : b < a
  · rw [Int.min_eq_right (by omega)]
    exact ct_of ok_Math_min rfl (r_to ok_Math_min 9999 [true] rfl ⟨(iI_lt hb ha).mpr hc, trivial⟩) rfl rfl rfl rfl rfl
  · rw [Int.min_eq_left (by omega)]
    exact ct_of ok_Math_min rfl (r_to ok_Math_min 9999 [false] rfl ⟨fun q => hc ((iI_lt hb ha).mp q), trivial⟩) rfl rfl rfl rfl rfl
theorem c_abs (ha : -2147483648 < a ∧ a ≤ 2147483647) : mj_Ct m_Math_abs [.int (iI a)] h (some (.int (iI (a.natAbs : Int)))) h 0 0 0 := by
  by_cases hc : 0 ≤ a
  · rw [show ((a.natAbs : Nat) : Int) = a by omega]
    exact ct_of ok_Math_abs rfl (r_to ok_Math_abs 9999 [true] rfl ⟨(iI_le (a := 0) ⟨by omega, by omega⟩ ⟨by omega, by omega⟩).mpr hc, trivial⟩) rfl rfl rfl rfl rfl
  · rw [show ((a.natAbs : Nat) : Int) = -a by omega, ← iI_neg]
    exact ct_of ok_Math_abs rfl (r_to ok_Math_abs 9999 [false] rfl ⟨fun q => hc ((iI_le (a := 0) ⟨by omega, by omega⟩ ⟨by omega, by omega⟩).mp q), trivial⟩) rfl rfl rfl rfl rfl
theorem iI_xor_neg (ha : -2147483648 ≤ a ∧ a ≤ 2147483647) (hb : 0 ≤ b ∧ b ≤ 2147483647) : (iI a ^^^ iI b < 0) ↔ a < 0 := by
  have key : ∀ x y : BitVec 32, y.msb = false → ((x ^^^ y).msb = x.msb) := fun x y hy => by rw [BitVec.msb_xor, hy, Bool.xor_false]
  have hm : ∀ z : Int32, z < 0 ↔ z.toBitVec.msb = true := fun z => by
    rw [Int32.lt_iff_toInt_lt, Int32.toInt_zero]
    rw [BitVec.msb_eq_toInt, decide_eq_true_eq]
    exact Iff.rfl
  have h1 : ¬ iI b < 0 := fun q => by
    rw [show (0 : Int32) = iI 0 from rfl, iI_lt ⟨by omega, by omega⟩ ⟨by omega, by omega⟩] at q
    omega
  have h2 : (iI b).toBitVec.msb = false := by
    cases hq : (iI b).toBitVec.msb with
    | false => rfl
    | true => exact absurd ((hm _).mpr hq) h1
  rw [hm, Int32.toBitVec_xor, key _ _ h2, ← hm, show (0 : Int32) = iI 0 from rfl, iI_lt ha ⟨by omega, by omega⟩]
theorem c_floorDiv (ha : -1000000 ≤ a ∧ a ≤ 1000000) (hb : 0 < b ∧ b ≤ 1000000) : mj_Ct m_Math_floorDiv [.int (iI a), .int (iI b)] h (some (.int (iI (a / b)))) h 0 0 0 := by
  have hb0 : ¬ iI b = 0 := fun q => by
    rw [show (0 : Int32) = iI 0 from rfl, iI_eq ⟨by omega, by omega⟩ ⟨by omega, by omega⟩] at q
    omega
  have hd : iI a / iI b = iI (a.tdiv b) := iI_div ⟨by omega, by omega⟩ ⟨by omega, by omega⟩
  have hx := iI_xor_neg (a := a) (b := b) ⟨by omega, by omega⟩ ⟨by omega, by omega⟩
  by_cases hc : 0 ≤ a
  · have e : a / b = a.tdiv b := (Int.tdiv_eq_ediv_of_nonneg hc).symm
    rw [e, ← hd]
    exact ct_of ok_Math_floorDiv rfl (r_to ok_Math_floorDiv 9999 [true] rfl ⟨hb0, Int32.not_lt.mp (fun q => by have := hx.mp q; omega), trivial⟩) rfl rfl rfl rfl rfl
  · have hn : ¬ (0 : Int32) ≤ iI a ^^^ iI b := fun q => Int32.not_le.mpr (hx.mpr (by omega)) q
    have hm := Int.mul_tdiv_add_tmod a b
    have hmm : a.tdiv b * b = a - a.tmod b := by rw [Int.mul_comm]; omega
    have hr1 : -b < a.tmod b ∧ a.tmod b ≤ 0 := by
      have h1 := Int.tmod_nonneg (a := -a) b (by omega)
      have h2 := Int.tmod_lt_of_pos (-a) hb.1
      rw [Int.neg_tmod] at h1 h2
      omega
    have hq : iI a / iI b * iI b = iI (a - a.tmod b) := by rw [hd, iI_mul, hmm]
    have he := Int.mul_ediv_add_emod a b
    have he1 := Int.emod_nonneg a (show b ≠ 0 by omega)
    have he2 := Int.emod_lt_of_pos a hb.1
    by_cases h0 : a.tmod b = 0
    · have e : a / b = a.tdiv b := by
        have h3 : b * a.tdiv b = b * (a / b) + a % b := by omega
        have h4 : b * (a.tdiv b - a / b) = a % b := by rw [Int.mul_sub]; omega
        have h5 : a.tdiv b - a / b = 0 := by
          rcases Int.lt_trichotomy (a.tdiv b - a / b) 0 with q | q | q
          · have := Int.mul_le_mul_of_nonneg_left (show a.tdiv b - a / b ≤ -1 by omega) (show 0 ≤ b by omega)
            omega
          · exact q
          · have := Int.mul_le_mul_of_nonneg_left (show 1 ≤ a.tdiv b - a / b by omega) (show 0 ≤ b by omega)
            omega
        omega
      rw [e, ← hd]
      exact ct_of ok_Math_floorDiv rfl (r_to ok_Math_floorDiv 9999 [false, true] rfl ⟨hb0, hn, by
        show iI a / iI b * iI b = iI a
        rw [hq, h0]
        simp, trivial⟩) rfl rfl rfl rfl rfl
    · have e : a / b = a.tdiv b - 1 := by
        have h4 : b * (a.tdiv b - a / b) = a % b - a.tmod b := by rw [Int.mul_sub]; omega
        have h5 : a.tdiv b - a / b = 1 := by
          rcases Int.lt_trichotomy (a.tdiv b - a / b) 1 with q | q | q
          · have := Int.mul_le_mul_of_nonneg_left (show a.tdiv b - a / b ≤ 0 by omega) (show 0 ≤ b by omega)
            omega
          · exact q
          · have := Int.mul_le_mul_of_nonneg_left (show 2 ≤ a.tdiv b - a / b by omega) (show 0 ≤ b by omega)
            omega
        omega
      rw [e, ← iI_sub, ← hd]
      exact ct_of ok_Math_floorDiv rfl (r_to ok_Math_floorDiv 9999 [false, false] rfl ⟨hb0, hn, fun q => by
        have q : iI a / iI b * iI b = iI a := q
        rw [hq, iI_eq ⟨by omega, by omega⟩ ⟨by omega, by omega⟩] at q
        omega, trivial⟩) rfl rfl rfl rfl rfl
end MATH
/-! Land: the small ones -/
section LAND1
variable {xs : Nat → Int32} {L : Nat} {A : Nat → Nat → Int32} {V : Nat → Int32} {Y : mj_H} {w h x y : Int}
theorem c_num (hw : V 0 = iI w) : mj_Ct m_Land_numberOf [.ref (mj_NE + 1), .int (iI x), .int (iI y)] (Wd xs L A V Y) (some (.int (iI (y * w + x)))) (Wd xs L A V Y) 0 0 0 := by
  rw [← iI_add, ← iI_mul, ← hw]
  exact c_numberOf
theorem c_has1 (hw : V 0 = iI w) (hh : V 1 = iI h) (h1 : 0 ≤ x ∧ x < w ∧ 0 ≤ y ∧ y < h) (h2 : w ≤ 1000 ∧ h ≤ 1000) : mj_Ct m_Land_has [.ref (mj_NE + 1), .int (iI x), .int (iI y)] (Wd xs L A V Y) (some (.int 1)) (Wd xs L A V Y) 0 0 0 :=
  ct_of ok_Land_has rfl (r_to ok_Land_has 9999 [false, false, false, false] rfl (by
    refine ⟨?_, ?_, ?_, ?_, trivial⟩ <;> simp (disch := omega) only [mj_c1, mj_c2, hw, hh, show (0 : Int32) = iI 0 from rfl, iI_lt, iI_le] <;> omega)) rfl rfl ⟨rfl, rfl⟩ rfl rfl
theorem c_has0 (hw : V 0 = iI w) (hh : V 1 = iI h) (h1 : ¬ (0 ≤ x ∧ x < w ∧ 0 ≤ y ∧ y < h)) (h2 : 0 ≤ w ∧ w ≤ 1000 ∧ 0 ≤ h ∧ h ≤ 1000) (h3 : -1000000 ≤ x ∧ x ≤ 1000000 ∧ -1000000 ≤ y ∧ y ≤ 1000000) : mj_Ct m_Land_has [.ref (mj_NE + 1), .int (iI x), .int (iI y)] (Wd xs L A V Y) (some (.int 0)) (Wd xs L A V Y) 0 0 0 := by
  by_cases k1 : x < 0
  · exact ct_of ok_Land_has rfl (r_to ok_Land_has 9999 [true] rfl (by
      refine ⟨?_, trivial⟩ <;> simp (disch := omega) only [mj_c1, mj_c2, hw, hh, show (0 : Int32) = iI 0 from rfl, iI_lt, iI_le] <;> omega)) rfl rfl ⟨rfl, rfl⟩ rfl rfl
  by_cases k2 : w ≤ x
  · exact ct_of ok_Land_has rfl (r_to ok_Land_has 9999 [false, true] rfl (by
      refine ⟨?_, ?_, trivial⟩ <;> simp (disch := omega) only [mj_c1, mj_c2, hw, hh, show (0 : Int32) = iI 0 from rfl, iI_lt, iI_le] <;> omega)) rfl rfl ⟨rfl, rfl⟩ rfl rfl
  by_cases k3 : y < 0
  · exact ct_of ok_Land_has rfl (r_to ok_Land_has 9999 [false, false, true] rfl (by
      refine ⟨?_, ?_, ?_, trivial⟩ <;> simp (disch := omega) only [mj_c1, mj_c2, hw, hh, show (0 : Int32) = iI 0 from rfl, iI_lt, iI_le] <;> omega)) rfl rfl ⟨rfl, rfl⟩ rfl rfl
  · exact ct_of ok_Land_has rfl (r_to ok_Land_has 9999 [false, false, false, true] rfl (by
      refine ⟨?_, ?_, ?_, ?_, trivial⟩ <;> simp (disch := omega) only [mj_c1, mj_c2, hw, hh, show (0 : Int32) = iI 0 from rfl, iI_lt, iI_le] <;> omega)) rfl rfl ⟨rfl, rfl⟩ rfl rfl
end LAND1
end
section
/-! Arrays.fill over the class's arrays -/
theorem wA_f {A : Nat → Nat → Int32} {k : Nat} {f g : Nat → Int32} : wA (wA A k f) k g = wA A k g := by
  funext j
  by_cases h : j = k <;> simp [va_up, h]
theorem wA_s {A : Nat → Nat → Int32} {k : Nat} {f : Nat → Int32} : (wA A k f) k = f := by simp [va_up]
theorem wA_id {A : Nat → Nat → Int32} {k : Nat} : wA A k (A k) = A := by
  funext j
  by_cases h : j = k <;> simp [va_up, h]
def fl (f : Nat → Int32) (v : Int32) (n : Nat) : Nat → Int32 := fun j => if j < n then v else f j
theorem fl_0 {f : Nat → Int32} {v : Int32} : fl f v 0 = f := by
  funext j
  simp [fl]
theorem fl_s {f : Nat → Int32} {v : Int32} {n : Nat} : upd (fl f v n) n v = fl f v (n + 1) := by
  funext j
  simp only [upd, fl]
  by_cases h1 : j = n
  · subst h1; simp
  · by_cases h2 : j < n
    · rw [if_neg h1, if_pos h2, if_pos (by omega)]
    · rw [if_neg h1, if_neg h2, if_neg (by omega)]
section FILL
variable {xs : Nat → Int32} {L : Nat} {A : Nat → Nat → Int32} {V : Nat → Int32} {Y : mj_H}
theorem c_fill_0 {v : Int32} : mj_Ct m_Arr_fill [.ref (mj_NE + 2), .int v] (Wd xs L A V Y) none (Wd xs L (wA A 0 (fl (A 0) v 256)) V Y) 0 0 0 := by
  have lp : ∀ n : Nat, n ≤ 256 → mj_Rc m_Arr_fill 0 0 0 (5, [.ref (mj_NE + 2), .int v, .int 0, .int (Int32.ofNat 256)], [], Wd xs L A V Y, 0, 0) (5, [.ref (mj_NE + 2), .int v, .int (iI n), .int (Int32.ofNat 256)], [], Wd xs L (wA A 0 (fl (A 0) v n)) V Y, 0, 0) := by
    intro n
    induction n with
    | zero => intro _; rw [fl_0, wA_id]; exact r_rf
    | succ n ih =>
      intro hn
      refine r_tr (ih (by omega)) (r_eq (r_to ok_Arr_fill 5 [false] rfl ⟨?_, ?_, trivial⟩) ?_)
      · show ¬ (Int32.ofNat 256 ≤ iI n)
        rw [show Int32.ofNat 256 = iI 256 from rfl, iI_le ⟨by omega, by omega⟩ ⟨by omega, by omega⟩]
        omega
      · exact (iI_in ⟨by omega, by omega⟩).mpr ⟨by omega, by omega⟩
      · have e : upd (fl (A 0) v n) (iI n).toNatClampNeg v = fl (A 0) v (n + 1) := by rw [iI_cl (by omega) (by omega), Int.toNat_natCast, fl_s]
        rw [← e]
        show (5, [Value.ref (mj_NE + 2), .int v, .int (iI n + 1), .int (Int32.ofNat 256)], [], _, 0, 0) = _
        rw [iI_1]
        rfl
  refine ct_of ok_Arr_fill rfl (r_tr (r_to ok_Arr_fill 5 [] rfl trivial) (r_tr (lp 256 (Nat.le_refl _)) (r_to ok_Arr_fill 9999 [true] rfl ⟨?_, trivial⟩))) rfl rfl rfl rfl rfl
  show Int32.ofNat 256 ≤ iI 256
  exact Int32.le_refl _
theorem c_fill_10 {v : Int32} : mj_Ct m_Arr_fill [.ref (mj_NE + 13), .int v] (Wd xs L A V Y) none (Wd xs L (wA A 10 (fl (A 10) v 256)) V Y) 0 0 0 := by
  have lp : ∀ n : Nat, n ≤ 256 → mj_Rc m_Arr_fill 0 0 0 (5, [.ref (mj_NE + 13), .int v, .int 0, .int (Int32.ofNat 256)], [], Wd xs L A V Y, 0, 0) (5, [.ref (mj_NE + 13), .int v, .int (iI n), .int (Int32.ofNat 256)], [], Wd xs L (wA A 10 (fl (A 10) v n)) V Y, 0, 0) := by
    intro n
    induction n with
    | zero => intro _; rw [fl_0, wA_id]; exact r_rf
    | succ n ih =>
      intro hn
      refine r_tr (ih (by omega)) (r_eq (r_to ok_Arr_fill 5 [false] rfl ⟨?_, ?_, trivial⟩) ?_)
      · show ¬ (Int32.ofNat 256 ≤ iI n)
        rw [show Int32.ofNat 256 = iI 256 from rfl, iI_le ⟨by omega, by omega⟩ ⟨by omega, by omega⟩]
        omega
      · exact (iI_in ⟨by omega, by omega⟩).mpr ⟨by omega, by omega⟩
      · have e : upd (fl (A 10) v n) (iI n).toNatClampNeg v = fl (A 10) v (n + 1) := by rw [iI_cl (by omega) (by omega), Int.toNat_natCast, fl_s]
        rw [← e]
        show (5, [Value.ref (mj_NE + 13), .int v, .int (iI n + 1), .int (Int32.ofNat 256)], [], _, 0, 0) = _
        rw [iI_1]
        rfl
  refine ct_of ok_Arr_fill rfl (r_tr (r_to ok_Arr_fill 5 [] rfl trivial) (r_tr (lp 256 (Nat.le_refl _)) (r_to ok_Arr_fill 9999 [true] rfl ⟨?_, trivial⟩))) rfl rfl rfl rfl rfl
  show Int32.ofNat 256 ≤ iI 256
  exact Int32.le_refl _
theorem c_fill_16 {v : Int32} : mj_Ct m_Arr_fill [.ref (mj_NE + 23), .int v] (Wd xs L A V Y) none (Wd xs L (wA A 16 (fl (A 16) v 512)) V Y) 0 0 0 := by
  have lp : ∀ n : Nat, n ≤ 512 → mj_Rc m_Arr_fill 0 0 0 (5, [.ref (mj_NE + 23), .int v, .int 0, .int (Int32.ofNat 512)], [], Wd xs L A V Y, 0, 0) (5, [.ref (mj_NE + 23), .int v, .int (iI n), .int (Int32.ofNat 512)], [], Wd xs L (wA A 16 (fl (A 16) v n)) V Y, 0, 0) := by
    intro n
    induction n with
    | zero => intro _; rw [fl_0, wA_id]; exact r_rf
    | succ n ih =>
      intro hn
      refine r_tr (ih (by omega)) (r_eq (r_to ok_Arr_fill 5 [false] rfl ⟨?_, ?_, trivial⟩) ?_)
      · show ¬ (Int32.ofNat 512 ≤ iI n)
        rw [show Int32.ofNat 512 = iI 512 from rfl, iI_le ⟨by omega, by omega⟩ ⟨by omega, by omega⟩]
        omega
      · exact (iI_in ⟨by omega, by omega⟩).mpr ⟨by omega, by omega⟩
      · have e : upd (fl (A 16) v n) (iI n).toNatClampNeg v = fl (A 16) v (n + 1) := by rw [iI_cl (by omega) (by omega), Int.toNat_natCast, fl_s]
        rw [← e]
        show (5, [Value.ref (mj_NE + 23), .int v, .int (iI n + 1), .int (Int32.ofNat 512)], [], _, 0, 0) = _
        rw [iI_1]
        rfl
  refine ct_of ok_Arr_fill rfl (r_tr (r_to ok_Arr_fill 5 [] rfl trivial) (r_tr (lp 512 (Nat.le_refl _)) (r_to ok_Arr_fill 9999 [true] rfl ⟨?_, trivial⟩))) rfl rfl rfl rfl rfl
  show Int32.ofNat 512 ≤ iI 512
  exact Int32.le_refl _
theorem c_fill_18 {v : Int32} : mj_Ct m_Arr_fill [.ref (mj_NE + 28), .int v] (Wd xs L A V Y) none (Wd xs L (wA A 18 (fl (A 18) v 256)) V Y) 0 0 0 := by
  have lp : ∀ n : Nat, n ≤ 256 → mj_Rc m_Arr_fill 0 0 0 (5, [.ref (mj_NE + 28), .int v, .int 0, .int (Int32.ofNat 256)], [], Wd xs L A V Y, 0, 0) (5, [.ref (mj_NE + 28), .int v, .int (iI n), .int (Int32.ofNat 256)], [], Wd xs L (wA A 18 (fl (A 18) v n)) V Y, 0, 0) := by
    intro n
    induction n with
    | zero => intro _; rw [fl_0, wA_id]; exact r_rf
    | succ n ih =>
      intro hn
      refine r_tr (ih (by omega)) (r_eq (r_to ok_Arr_fill 5 [false] rfl ⟨?_, ?_, trivial⟩) ?_)
      · show ¬ (Int32.ofNat 256 ≤ iI n)
        rw [show Int32.ofNat 256 = iI 256 from rfl, iI_le ⟨by omega, by omega⟩ ⟨by omega, by omega⟩]
        omega
      · exact (iI_in ⟨by omega, by omega⟩).mpr ⟨by omega, by omega⟩
      · have e : upd (fl (A 18) v n) (iI n).toNatClampNeg v = fl (A 18) v (n + 1) := by rw [iI_cl (by omega) (by omega), Int.toNat_natCast, fl_s]
        rw [← e]
        show (5, [Value.ref (mj_NE + 28), .int v, .int (iI n + 1), .int (Int32.ofNat 256)], [], _, 0, 0) = _
        rw [iI_1]
        rfl
  refine ct_of ok_Arr_fill rfl (r_tr (r_to ok_Arr_fill 5 [] rfl trivial) (r_tr (lp 256 (Nat.le_refl _)) (r_to ok_Arr_fill 9999 [true] rfl ⟨?_, trivial⟩))) rfl rfl rfl rfl rfl
  show Int32.ofNat 256 ≤ iI 256
  exact Int32.le_refl _
end FILL
end
section
/-! Land: neighbours, laying out -/
def sxI (d : Nat) : Int := [1, 1, 0, -1, -1, -1, 0, 1].getD d 0
def syI (d : Nat) : Int := [0, 1, 1, 1, 0, -1, -1, -1].getD d 0
theorem s0_I : ∀ d, d < 8 → mj_s0 d = iI (sxI d) ∧ -1 ≤ sxI d ∧ sxI d ≤ 1 := by decide +kernel
theorem s1_I : ∀ d, d < 8 → mj_s1 d = iI (syI d) ∧ -1 ≤ syI d ∧ syI d ≤ 1 := by decide +kernel
/-- the NUMBER of the NEIGHBOUR of (x, y) in the direction d, or -1 -/
def nb (w h x y : Int) (d : Nat) : Int := if 0 ≤ x + sxI d ∧ x + sxI d < w ∧ 0 ≤ y + syI d ∧ y + syI d < h then (y + syI d) * w + (x + sxI d) else -1
/-- the table f with the first n directions of (x, y) written -/
def nbw (w h x y : Int) (f : Nat → Int32) (n : Nat) : Nat → Int32 := fun j => if ((y * w + x) * 8).toNat ≤ j ∧ j < ((y * w + x) * 8).toNat + n then iI (nb w h x y (j - ((y * w + x) * 8).toNat)) else f j
theorem nbw_0 {w h x y : Int} {f : Nat → Int32} : nbw w h x y f 0 = f := by
  funext j
  unfold nbw
  rw [if_neg (by omega)]
theorem nbw_s {w h x y : Int} {f : Nat → Int32} {n : Nat} : upd (nbw w h x y f n) (((y * w + x) * 8).toNat + n) (iI (nb w h x y n)) = nbw w h x y f (n + 1) := by
  funext j
  simp only [upd, nbw]
  by_cases h1 : j = ((y * w + x) * 8).toNat + n
  · rw [if_pos h1, if_pos (by omega), h1, Nat.add_sub_cancel_left]
  · rw [if_neg h1]
    by_cases h2 : ((y * w + x) * 8).toNat ≤ j ∧ j < ((y * w + x) * 8).toNat + n
    · rw [if_pos h2, if_pos (by omega)]
    · rw [if_neg h2, if_neg (by omega)]
/-- y * w + x with its bounds -/
theorem num_bd {w h x y : Int} (hw : 2 ≤ w ∧ w ≤ 16) (hh : 2 ≤ h ∧ h ≤ 16) (hx : 0 ≤ x ∧ x < w) (hy : 0 ≤ y ∧ y < h) : 0 ≤ y * w + x ∧ y * w + x < w * h ∧ w * h ≤ 256 := by
  have h1 : 0 ≤ y * w := Int.mul_nonneg hy.1 (by omega)
  have h2 : y * w ≤ (h - 1) * w := Int.mul_le_mul_of_nonneg_right (by omega) (by omega)
  have h3 : (h - 1) * w = w * h - w := by rw [Int.sub_mul, Int.one_mul, Int.mul_comm]
  have h4 : w * h ≤ 16 * h := Int.mul_le_mul_of_nonneg_right hw.2 (by omega)
  omega
theorem nb_bd {w h x y : Int} (hw : 2 ≤ w ∧ w ≤ 16) (hh : 2 ≤ h ∧ h ≤ 16) (d : Nat) : -1 ≤ nb w h x y d ∧ nb w h x y d < w * h := by
  unfold nb
  split
  · rename_i h1
    have := num_bd hw hh ⟨h1.1, h1.2.1⟩ ⟨h1.2.2.1, h1.2.2.2⟩
    omega
  · have h4 : 2 * h ≤ w * h := Int.mul_le_mul_of_nonneg_right hw.1 (by omega)
    omega
section LAND2
variable {xs : Nat → Int32} {L : Nat} {A : Nat → Nat → Int32} {V : Nat → Int32} {Y : mj_H} {w h x y : Int}
set_option maxHeartbeats 1000000 in
theorem c_findNeighbours (hw0 : V 0 = iI w) (hh0 : V 1 = iI h) (hw : 2 ≤ w ∧ w ≤ 16) (hh : 2 ≤ h ∧ h ≤ 16) (hx : 0 ≤ x ∧ x < w) (hy : 0 ≤ y ∧ y < h) : mj_Ct m_Land_findNeighbours [.ref (mj_NE + 1), .int (iI x), .int (iI y)] (Wd xs L A V Y) none (Wd xs L (wA A 2 (nbw w h x y (A 2) 8)) V Y) 0 0 1 := by
  have hb := num_bd hw hh hx hy
  have lp : ∀ n : Nat, n ≤ 8 → ∃ u1 u2 : Value, mj_Rc m_Land_findNeighbours 0 0 1 (2, [.ref (mj_NE + 1), .int (iI x), .int (iI y), .int 0, mj_u, mj_u], [], Wd xs L A V Y, 0, 0) (2, [.ref (mj_NE + 1), .int (iI x), .int (iI y), .int (iI n), u1, u2], [], Wd xs L (wA A 2 (nbw w h x y (A 2) n)) V Y, 0, 0) := by
    intro n
    induction n with
    | zero => intro _; rw [nbw_0, wA_id]; exact ⟨_, _, r_rf⟩
    | succ n ih =>
      intro hn
      obtain ⟨u1, u2, hr⟩ := ih (by omega)
      generalize hA1 : wA A 2 (nbw w h x y (A 2) n) = A1 at hr
      obtain ⟨e0, b1, b2⟩ := s0_I n (by omega)
      obtain ⟨e1, b3, b4⟩ := s1_I n (by omega)
      have hc : (iI n).toNatClampNeg = n := by rw [iI_cl (by omega) (by omega), Int.toNat_natCast]
      have hin : vp_in (iI n) 8 := (iI_in ⟨by omega, by omega⟩).mpr ⟨by omega, by omega⟩
      have s1 : mj_Rc m_Land_findNeighbours 0 0 1 (2, [.ref (mj_NE + 1), .int (iI x), .int (iI y), .int (iI n), u1, u2], [], Wd xs L A1 V Y, 0, 0) (33, [.ref (mj_NE + 1), .int (iI x), .int (iI y), .int (iI n), .int (iI x + mj_s0 (iI n).toNatClampNeg), .int (iI y + mj_s1 (iI n).toNatClampNeg)], [.int (iI y), .int (iI x), .ref (mj_NE + 1), .ref (mj_NE + 4)], Wd xs L A1 V Y, 0, 0) := r_to ok_Land_findNeighbours 9999 [false] rfl ⟨by
        show ¬ (iI 8 ≤ iI n)
        rw [iI_le ⟨by omega, by omega⟩ ⟨by omega, by omega⟩]
        omega, hin, hin, trivial⟩
      rw [hc, e0, e1, iI_add, iI_add] at s1
      have s2 := r_tr (r_tr hr s1) (q_V ok_Land_findNeighbours ok_Land_numberOf se_Land_numberOf (c_num hw0) rfl rfl rfl rfl rfl ⟨rfl, rfl, rfl⟩)
      have s3 := r_tr s2 (r_to (g' := (46, [.ref (mj_NE + 1), .int (iI x), .int (iI y), .int (iI n), .int (iI (x + sxI n)), .int (iI (y + syI n))], [.int (iI (y + syI n)), .int (iI (x + sxI n)), .ref (mj_NE + 1), .int (iI (y * w + x) * iI 8 + iI n), .ref (mj_NE + 4)], Wd xs L A1 V Y, 0, 0)) ok_Land_findNeighbours 9999 [] rfl trivial)
      rw [iI_mul, iI_add] at s3
      have hi2 : vp_in (iI ((y * w + x) * 8 + n)) 2048 := (iI_in ⟨by omega, by omega⟩).mpr ⟨by omega, by omega⟩
      have hc2 : (iI ((y * w + x) * 8 + n)).toNatClampNeg = ((y * w + x) * 8).toNat + n := by rw [iI_cl (by omega) (by omega)]; omega
      have fin : ∀ v : Int, v = nb w h x y n → mj_Rc m_Land_findNeighbours 0 0 1 (64, [.ref (mj_NE + 1), .int (iI x), .int (iI y), .int (iI n), .int (iI (x + sxI n)), .int (iI (y + syI n))], [.int (iI v), .int (iI ((y * w + x) * 8 + n)), .ref (mj_NE + 4)], Wd xs L A1 V Y, 0, 0) (2, [.ref (mj_NE + 1), .int (iI x), .int (iI y), .int (iI (n + 1 : Nat)), .int (iI (x + sxI n)), .int (iI (y + syI n))], [], Wd xs L (wA A 2 (nbw w h x y (A 2) (n + 1))) V Y, 0, 0) := by
        intro v hv
        subst hv
        subst hA1
        generalize hA1 : wA A 2 (nbw w h x y (A 2) n) = A1
        have s4 : mj_Rc m_Land_findNeighbours 0 0 1 (64, [.ref (mj_NE + 1), .int (iI x), .int (iI y), .int (iI n), .int (iI (x + sxI n)), .int (iI (y + syI n))], [.int (iI (nb w h x y n)), .int (iI ((y * w + x) * 8 + n)), .ref (mj_NE + 4)], Wd xs L A1 V Y, 0, 0) (2, [.ref (mj_NE + 1), .int (iI x), .int (iI y), .int (iI n + 1), .int (iI (x + sxI n)), .int (iI (y + syI n))], [], Wd xs L (wA A1 2 (upd (A1 2) (iI ((y * w + x) * 8 + n)).toNatClampNeg (iI (nb w h x y n)))) V Y, 0, 0) := r_to ok_Land_findNeighbours 2 [] rfl ⟨hi2, trivial⟩
        rw [iI_1, hc2] at s4
        subst hA1
        rw [wA_s, wA_f, nbw_s] at s4
        exact s4
      by_cases hin2 : 0 ≤ x + sxI n ∧ x + sxI n < w ∧ 0 ≤ y + syI n ∧ y + syI n < h
      · have s5 := r_tr s3 (q_V ok_Land_findNeighbours ok_Land_has se_Land_has (c_has1 hw0 hh0 hin2 ⟨by omega, by omega⟩) rfl rfl rfl rfl rfl ⟨rfl, rfl, rfl⟩)
        have s6 := r_tr s5 (r_to (g' := (57, [.ref (mj_NE + 1), .int (iI x), .int (iI y), .int (iI n), .int (iI (x + sxI n)), .int (iI (y + syI n))], [.int (iI (y + syI n)), .int (iI (x + sxI n)), .ref (mj_NE + 1), .int (iI ((y * w + x) * 8 + n)), .ref (mj_NE + 4)], Wd xs L A1 V Y, 0, 0)) ok_Land_findNeighbours 9999 [false] rfl ⟨by show ¬ ((1 : Int32) = 0); decide, trivial⟩)
        have s7 := r_tr s6 (q_V ok_Land_findNeighbours ok_Land_numberOf se_Land_numberOf (c_num hw0) rfl rfl rfl rfl rfl ⟨rfl, rfl, rfl⟩)
        have s8 := r_tr s7 (r_to (g' := (64, [.ref (mj_NE + 1), .int (iI x), .int (iI y), .int (iI n), .int (iI (x + sxI n)), .int (iI (y + syI n))], [.int (iI ((y + syI n) * w + (x + sxI n))), .int (iI ((y * w + x) * 8 + n)), .ref (mj_NE + 4)], Wd xs L A1 V Y, 0, 0)) ok_Land_findNeighbours 64 [] rfl trivial)
        exact ⟨_, _, r_tr s8 (fin _ (by unfold nb; rw [if_pos hin2]))⟩
      · have s5 := r_tr s3 (q_V ok_Land_findNeighbours ok_Land_has se_Land_has (c_has0 hw0 hh0 hin2 ⟨by omega, by omega, by omega, by omega⟩ ⟨by omega, by omega, by omega, by omega⟩) rfl rfl rfl rfl rfl ⟨rfl, rfl, rfl⟩)
        have s8 := r_tr s5 (r_to (g' := (64, [.ref (mj_NE + 1), .int (iI x), .int (iI y), .int (iI n), .int (iI (x + sxI n)), .int (iI (y + syI n))], [.int (-1), .int (iI ((y * w + x) * 8 + n)), .ref (mj_NE + 4)], Wd xs L A1 V Y, 0, 0)) ok_Land_findNeighbours 64 [true] rfl ⟨by show ((0 : Int32) = 0); rfl, trivial⟩)
        rw [iI_neg1] at s8
        exact ⟨_, _, r_tr s8 (fin _ (by unfold nb; rw [if_neg hin2]))⟩
  obtain ⟨u1, u2, hr⟩ := lp 8 (Nat.le_refl _)
  refine ct_of ok_Land_findNeighbours rfl (r_tr (r_to ok_Land_findNeighbours 2 [] rfl trivial) (r_tr hr (r_to ok_Land_findNeighbours 9999 [true] rfl ⟨?_, trivial⟩))) rfl rfl rfl rfl rfl
  show (8 : Int32) ≤ iI 8
  exact Int32.le_refl _
end LAND2
end
section
/-! Land.layOut -/
/-- the NUMBER i told by its x and y -/
theorem num_xy {w x y : Int} (hw : 0 < w) (hx : 0 ≤ x ∧ x < w) : (y * w + x) % w = x ∧ (y * w + x) / w = y := by
  constructor
  · rw [Int.add_comm, Int.add_mul_emod_self_right]
    exact Int.emod_eq_of_lt hx.1 hx.2
  · rw [Int.add_comm, Int.add_mul_ediv_right _ _ (by omega), Int.ediv_eq_zero_of_lt hx.1 hx.2]
    omega
def nbi (w h : Int) (i d : Nat) : Int := nb w h ((i : Int) % w) ((i : Int) / w) d
/-- the table of NEIGHBOURS, written for the first k FIELDS -/
def nbOK (w h : Int) (f : Nat → Int32) (k : Nat) : Prop := ∀ i : Nat, i < k → ∀ d : Nat, d < 8 → f (i * 8 + d) = iI (nbi w h i d)
theorem nbOK_s {w h x y : Int} {f : Nat → Int32} (hw : 2 ≤ w ∧ w ≤ 16) (hh : 2 ≤ h ∧ h ≤ 16) (hx : 0 ≤ x ∧ x < w) (hy : 0 ≤ y ∧ y < h) {k : Nat} (hk : (k : Int) = y * w + x) (hf : nbOK w h f k) : nbOK w h (nbw w h x y f 8) (k + 1) := by
  intro i hi d hd
  have e : ((y * w + x) * 8).toNat = k * 8 := by rw [← hk]; omega
  unfold nbw
  rw [e]
  by_cases h1 : i = k
  · subst h1
    rw [if_pos (by omega)]
    have e2 := num_xy (y := y) (by omega) hx
    unfold nbi
    rw [hk, e2.1, e2.2, show i * 8 + d - i * 8 = d by omega]
  · rw [if_neg (by omega)]
    exact hf i (by omega) d hd
section LAYOUT
variable {xs : Nat → Int32} {L : Nat} {A : Nat → Nat → Int32} {V : Nat → Int32} {Y : mj_H} {w h : Int}
set_option maxHeartbeats 1000000 in
theorem c_layOut (hw : 2 ≤ w ∧ w ≤ 16) (hh : 2 ≤ h ∧ h ≤ 16) : ∃ f : Nat → Int32, nbOK w h f (w * h).toNat ∧ mj_Ct m_Land_layOut [.ref (mj_NE + 1), .int (iI w), .int (iI h)] (Wd xs L A V Y) none (Wd xs L (wA (wA A 0 (fl (A 0) 0 256)) 2 f) (wV (wV (wV V 0 (iI w)) 1 (iI h)) 2 (iI (w * h))) Y) 0 0 2 := by
  generalize hA0 : wA A 0 (fl (A 0) 0 256) = A0
  generalize hV' : wV (wV (wV V 0 (iI w)) 1 (iI h)) 2 (iI (w * h)) = V'
  have v0 : V' 0 = iI w := by rw [← hV']; rfl
  have v1 : V' 1 = iI h := by rw [← hV']; rfl
  have s1 : mj_Rc m_Land_layOut 0 0 2 (0, [.ref (mj_NE + 1), .int (iI w), .int (iI h), mj_u, mj_u], [], Wd xs L A V Y, 0, 0) (22, [.ref (mj_NE + 1), .int (iI w), .int (iI h), mj_u, mj_u], [.int 0, .ref (mj_NE + 2)], Wd xs L A (wV (wV (wV V 0 (iI w)) 1 (iI h)) 2 (iI w * iI h)) Y, 0, 0) := r_to ok_Land_layOut 9999 [] rfl trivial
  rw [iI_mul, hV'] at s1
  have s2 := r_tr s1 (q_S ok_Land_layOut ok_Arr_fill st_Arr_fill c_fill_0 rfl rfl rfl rfl ⟨rfl, rfl, rfl⟩)
  rw [hA0] at s2
  have s3 := r_tr s2 (r_to (g' := (27, [.ref (mj_NE + 1), .int (iI w), .int (iI h), .int 0, mj_u], [], Wd xs L A0 V' Y, 0, 0)) ok_Land_layOut 27 [] rfl trivial)
  -- a row
  have row : ∀ (y : Int) (f : Nat → Int32) (k0 : Nat) (u : Value), 0 ≤ y ∧ y < h → (k0 : Int) = y * w → nbOK w h f k0 → ∀ n : Nat, (n : Int) ≤ w → ∃ g : Nat → Int32, nbOK w h g (k0 + n) ∧ mj_Rc m_Land_layOut 0 0 2 (38, [.ref (mj_NE + 1), .int (iI w), .int (iI h), .int (iI y), .int 0], [], Wd xs L (wA A0 2 f) V' Y, 0, 0) (38, [.ref (mj_NE + 1), .int (iI w), .int (iI h), .int (iI y), .int (iI n)], [], Wd xs L (wA A0 2 g) V' Y, 0, 0) := by
    intro y f k0 u hy hk0 hf n
    induction n with
    | zero => intro _; exact ⟨f, hf, r_rf⟩
    | succ n ih =>
      intro hn
      obtain ⟨g, hg, hr⟩ := ih (by omega)
      have t1 := r_tr hr (r_to (g' := (51, [.ref (mj_NE + 1), .int (iI w), .int (iI h), .int (iI y), .int (iI n)], [.int (iI y), .int (iI n), .ref (mj_NE + 1)], Wd xs L (wA A0 2 g) V' Y, 0, 0)) ok_Land_layOut 9999 [false] rfl ⟨by
        show ¬ (V' 0 ≤ iI n)
        rw [v0, iI_le ⟨by omega, by omega⟩ ⟨by omega, by omega⟩]
        omega, trivial⟩)
      have t2 := r_tr t1 (q_V ok_Land_layOut ok_Land_findNeighbours se_Land_findNeighbours (c_findNeighbours v0 v1 hw hh ⟨by omega, by omega⟩ hy) rfl rfl rfl rfl rfl ⟨rfl, rfl, rfl⟩)
      rw [wA_s, wA_f] at t2
      have t3 := r_tr t2 (r_to (g' := (38, [.ref (mj_NE + 1), .int (iI w), .int (iI h), .int (iI y), .int (iI n + 1)], [], Wd xs L (wA A0 2 (nbw w h n y g 8)) V' Y, 0, 0)) ok_Land_layOut 38 [] rfl trivial)
      rw [iI_1] at t3
      exact ⟨_, nbOK_s (k := k0 + n) hw hh ⟨by omega, by omega⟩ hy (by omega) hg, t3⟩
  have rows : ∀ n : Nat, (n : Int) ≤ h → ∃ (f : Nat → Int32) (u : Value), nbOK w h f ((n : Int) * w).toNat ∧ mj_Rc m_Land_layOut 0 0 2 (27, [.ref (mj_NE + 1), .int (iI w), .int (iI h), .int 0, mj_u], [], Wd xs L A0 V' Y, 0, 0) (27, [.ref (mj_NE + 1), .int (iI w), .int (iI h), .int (iI n), u], [], Wd xs L (wA A0 2 f) V' Y, 0, 0) := by
    intro n
    induction n with
    | zero => intro _; exact ⟨A0 2, mj_u, fun i hi => absurd hi (by simp), by rw [wA_id]; exact r_rf⟩
    | succ n ih =>
      intro hn
      obtain ⟨f, u, hf, hr⟩ := ih (by omega)
      have hnw : 0 ≤ (n : Int) * w := Int.mul_nonneg (by omega) (by omega)
      have t1 := r_tr hr (r_to (g' := (38, [.ref (mj_NE + 1), .int (iI w), .int (iI h), .int (iI n), .int 0], [], Wd xs L (wA A0 2 f) V' Y, 0, 0)) ok_Land_layOut 38 [false] rfl ⟨by
        show ¬ (V' 1 ≤ iI n)
        rw [v1, iI_le ⟨by omega, by omega⟩ ⟨by omega, by omega⟩]
        omega, trivial⟩)
      obtain ⟨g, hg, hr2⟩ := row n f ((n : Int) * w).toNat u ⟨by omega, by omega⟩ (by omega) hf w.toNat (by omega)
      have t2 := r_tr (r_tr t1 hr2) (r_to (g' := (27, [.ref (mj_NE + 1), .int (iI w), .int (iI h), .int (iI n + 1), .int (iI w.toNat)], [], Wd xs L (wA A0 2 g) V' Y, 0, 0)) ok_Land_layOut 27 [true] rfl ⟨by
        show V' 0 ≤ iI w.toNat
        rw [v0, iI_le ⟨by omega, by omega⟩ ⟨by omega, by omega⟩]
        omega, trivial⟩)
      rw [iI_1] at t2
      refine ⟨g, _, ?_, t2⟩
      have e : (((n + 1 : Nat) : Int) * w).toNat = ((n : Int) * w).toNat + w.toNat := by
        rw [Int.natCast_add, Int.add_mul]
        omega
      rw [e]
      exact hg
  obtain ⟨f, u, hf, hr⟩ := rows h.toNat (by omega)
  refine ⟨f, ?_, ct_of ok_Land_layOut rfl (r_tr (r_tr s3 hr) (r_to ok_Land_layOut 9999 [true] rfl ⟨?_, trivial⟩)) rfl rfl rfl rfl rfl⟩
  · have e : ((h.toNat : Nat) : Int) * w = w * h := by rw [Int.mul_comm]; congr 1; omega
    rw [e] at hf
    exact hf
  · show V' 1 ≤ iI h.toNat
    rw [v1, iI_le ⟨by omega, by omega⟩ ⟨by omega, by omega⟩]
    omega
end LAYOUT
end
section
/-! the constructors, in the order of the class's own -/
section INIT
variable {xs : Nat → Int32} {L : Nat}
set_option maxRecDepth 10000 in
theorem i_Land : mj_Ct m_Land_init [.ref (mj_NE + 1)] (mj_pre xs L [.inr (8, [.null, .null, .null, .null, .null, .null, .null, .int 0]), .inr (4, [.null, .null, .null, .int 0, .int 0, .int 0])]) none (mj_pre xs L [.inr (8, [.null, .null, .null, .null, .null, .null, .null, .int 0]), .inr (4, [.ref (mj_NE + 2), .ref (mj_NE + 3), .ref (mj_NE + 4), .int 0, .int 0, .int 0]), mj_ia 256 (fun _ => 0), mj_ia 256 (fun _ => 0), mj_ia 2048 (fun _ => 0)]) 3 2560 1 :=
  ct_of ok_Land_init rfl (r_tr (r_to ok_Land_init 1 [] rfl trivial) (r_tr (r_O ok_Land_init rfl rfl rfl) (r_to ok_Land_init 9999 [] rfl (by refine ⟨?_, ?_, ?_, trivial⟩ <;> decide +kernel)))) rfl rfl rfl rfl rfl
set_option maxRecDepth 10000 in
theorem i_Streams : mj_Ct m_Streams_init [.ref (mj_NE + 5), .ref (mj_NE + 1)] (mj_pre xs L [.inr (8, [.ref (mj_NE + 1), .null, .null, .null, .null, .null, .null, .int 0]), .inr (4, [.ref (mj_NE + 2), .ref (mj_NE + 3), .ref (mj_NE + 4), .int 0, .int 0, .int 0]), mj_ia 256 (fun _ => 0), mj_ia 256 (fun _ => 0), mj_ia 2048 (fun _ => 0), .inr (6, [.null, .null, .null, .null, .null, .null, .null, .null, .null, .null, .null, .int 0])]) none (mj_pre xs L [.inr (8, [.ref (mj_NE + 1), .null, .null, .null, .null, .null, .null, .int 0]), .inr (4, [.ref (mj_NE + 2), .ref (mj_NE + 3), .ref (mj_NE + 4), .int 0, .int 0, .int 0]), mj_ia 256 (fun _ => 0), mj_ia 256 (fun _ => 0), mj_ia 2048 (fun _ => 0), .inr (6, [.ref (mj_NE + 1), .ref (mj_NE + 6), .ref (mj_NE + 7), .ref (mj_NE + 8), .ref (mj_NE + 9), .ref (mj_NE + 10), .ref (mj_NE + 11), .ref (mj_NE + 12), .ref (mj_NE + 13), .ref (mj_NE + 14), .ref (mj_NE + 15), .int 0]), mj_ia 256 (fun _ => 0), mj_ia 256 (fun _ => 0), mj_ia 256 (fun _ => 0), mj_ia 256 (fun _ => 0), mj_ia 256 (fun _ => 0), mj_ia 256 (fun _ => 0), mj_ia 256 (fun _ => 0), mj_ia 256 (fun _ => 0), .inl (.boolean, 256, .inl (fun _ => 0)), mj_ia 256 (fun _ => 0)]) 10 2560 1 := by
  have s0 := r_tr (r_to (RC := 10) (RS := 2560) (dd := 1) (g := (0, [.ref (mj_NE + 5), .ref (mj_NE + 1)], [], mj_pre xs L [.inr (8, [.ref (mj_NE + 1), .null, .null, .null, .null, .null, .null, .int 0]), .inr (4, [.ref (mj_NE + 2), .ref (mj_NE + 3), .ref (mj_NE + 4), .int 0, .int 0, .int 0]), mj_ia 256 (fun _ => 0), mj_ia 256 (fun _ => 0), mj_ia 2048 (fun _ => 0), .inr (6, [.null, .null, .null, .null, .null, .null, .null, .null, .null, .null, .null, .int 0])], 0, 0)) ok_Streams_init 1 [] rfl trivial) (r_O ok_Streams_init rfl rfl rfl)
  have s1 := r_tr s0 (r_to (g' := (13, [.ref (mj_NE + 5), .ref (mj_NE + 1)], [], mj_pre xs L [.inr (8, [.ref (mj_NE + 1), .null, .null, .null, .null, .null, .null, .int 0]), .inr (4, [.ref (mj_NE + 2), .ref (mj_NE + 3), .ref (mj_NE + 4), .int 0, .int 0, .int 0]), mj_ia 256 (fun _ => 0), mj_ia 256 (fun _ => 0), mj_ia 2048 (fun _ => 0), .inr (6, [.null, .ref (mj_NE + 6), .null, .null, .null, .null, .null, .null, .null, .null, .null, .int 0]), mj_ia 256 (fun _ => 0)], 1, 256)) ok_Streams_init 13 [] rfl (by refine ⟨?_, trivial⟩ <;> decide +kernel))
  have s2 := r_tr s1 (r_to (g' := (22, [.ref (mj_NE + 5), .ref (mj_NE + 1)], [], mj_pre xs L [.inr (8, [.ref (mj_NE + 1), .null, .null, .null, .null, .null, .null, .int 0]), .inr (4, [.ref (mj_NE + 2), .ref (mj_NE + 3), .ref (mj_NE + 4), .int 0, .int 0, .int 0]), mj_ia 256 (fun _ => 0), mj_ia 256 (fun _ => 0), mj_ia 2048 (fun _ => 0), .inr (6, [.null, .ref (mj_NE + 6), .ref (mj_NE + 7), .null, .null, .null, .null, .null, .null, .null, .null, .int 0]), mj_ia 256 (fun _ => 0), mj_ia 256 (fun _ => 0)], 2, 512)) ok_Streams_init 22 [] rfl (by refine ⟨?_, trivial⟩ <;> decide +kernel))
  have s3 := r_tr s2 (r_to (g' := (31, [.ref (mj_NE + 5), .ref (mj_NE + 1)], [], mj_pre xs L [.inr (8, [.ref (mj_NE + 1), .null, .null, .null, .null, .null, .null, .int 0]), .inr (4, [.ref (mj_NE + 2), .ref (mj_NE + 3), .ref (mj_NE + 4), .int 0, .int 0, .int 0]), mj_ia 256 (fun _ => 0), mj_ia 256 (fun _ => 0), mj_ia 2048 (fun _ => 0), .inr (6, [.null, .ref (mj_NE + 6), .ref (mj_NE + 7), .ref (mj_NE + 8), .null, .null, .null, .null, .null, .null, .null, .int 0]), mj_ia 256 (fun _ => 0), mj_ia 256 (fun _ => 0), mj_ia 256 (fun _ => 0)], 3, 768)) ok_Streams_init 31 [] rfl (by refine ⟨?_, trivial⟩ <;> decide +kernel))
  have s4 := r_tr s3 (r_to (g' := (40, [.ref (mj_NE + 5), .ref (mj_NE + 1)], [], mj_pre xs L [.inr (8, [.ref (mj_NE + 1), .null, .null, .null, .null, .null, .null, .int 0]), .inr (4, [.ref (mj_NE + 2), .ref (mj_NE + 3), .ref (mj_NE + 4), .int 0, .int 0, .int 0]), mj_ia 256 (fun _ => 0), mj_ia 256 (fun _ => 0), mj_ia 2048 (fun _ => 0), .inr (6, [.null, .ref (mj_NE + 6), .ref (mj_NE + 7), .ref (mj_NE + 8), .ref (mj_NE + 9), .null, .null, .null, .null, .null, .null, .int 0]), mj_ia 256 (fun _ => 0), mj_ia 256 (fun _ => 0), mj_ia 256 (fun _ => 0), mj_ia 256 (fun _ => 0)], 4, 1024)) ok_Streams_init 40 [] rfl (by refine ⟨?_, trivial⟩ <;> decide +kernel))
  have s5 := r_tr s4 (r_to (g' := (49, [.ref (mj_NE + 5), .ref (mj_NE + 1)], [], mj_pre xs L [.inr (8, [.ref (mj_NE + 1), .null, .null, .null, .null, .null, .null, .int 0]), .inr (4, [.ref (mj_NE + 2), .ref (mj_NE + 3), .ref (mj_NE + 4), .int 0, .int 0, .int 0]), mj_ia 256 (fun _ => 0), mj_ia 256 (fun _ => 0), mj_ia 2048 (fun _ => 0), .inr (6, [.null, .ref (mj_NE + 6), .ref (mj_NE + 7), .ref (mj_NE + 8), .ref (mj_NE + 9), .ref (mj_NE + 10), .null, .null, .null, .null, .null, .int 0]), mj_ia 256 (fun _ => 0), mj_ia 256 (fun _ => 0), mj_ia 256 (fun _ => 0), mj_ia 256 (fun _ => 0), mj_ia 256 (fun _ => 0)], 5, 1280)) ok_Streams_init 49 [] rfl (by refine ⟨?_, trivial⟩ <;> decide +kernel))
  have s6 := r_tr s5 (r_to (g' := (58, [.ref (mj_NE + 5), .ref (mj_NE + 1)], [], mj_pre xs L [.inr (8, [.ref (mj_NE + 1), .null, .null, .null, .null, .null, .null, .int 0]), .inr (4, [.ref (mj_NE + 2), .ref (mj_NE + 3), .ref (mj_NE + 4), .int 0, .int 0, .int 0]), mj_ia 256 (fun _ => 0), mj_ia 256 (fun _ => 0), mj_ia 2048 (fun _ => 0), .inr (6, [.null, .ref (mj_NE + 6), .ref (mj_NE + 7), .ref (mj_NE + 8), .ref (mj_NE + 9), .ref (mj_NE + 10), .ref (mj_NE + 11), .null, .null, .null, .null, .int 0]), mj_ia 256 (fun _ => 0), mj_ia 256 (fun _ => 0), mj_ia 256 (fun _ => 0), mj_ia 256 (fun _ => 0), mj_ia 256 (fun _ => 0), mj_ia 256 (fun _ => 0)], 6, 1536)) ok_Streams_init 58 [] rfl (by refine ⟨?_, trivial⟩ <;> decide +kernel))
  have s7 := r_tr s6 (r_to (g' := (67, [.ref (mj_NE + 5), .ref (mj_NE + 1)], [], mj_pre xs L [.inr (8, [.ref (mj_NE + 1), .null, .null, .null, .null, .null, .null, .int 0]), .inr (4, [.ref (mj_NE + 2), .ref (mj_NE + 3), .ref (mj_NE + 4), .int 0, .int 0, .int 0]), mj_ia 256 (fun _ => 0), mj_ia 256 (fun _ => 0), mj_ia 2048 (fun _ => 0), .inr (6, [.null, .ref (mj_NE + 6), .ref (mj_NE + 7), .ref (mj_NE + 8), .ref (mj_NE + 9), .ref (mj_NE + 10), .ref (mj_NE + 11), .ref (mj_NE + 12), .null, .null, .null, .int 0]), mj_ia 256 (fun _ => 0), mj_ia 256 (fun _ => 0), mj_ia 256 (fun _ => 0), mj_ia 256 (fun _ => 0), mj_ia 256 (fun _ => 0), mj_ia 256 (fun _ => 0), mj_ia 256 (fun _ => 0)], 7, 1792)) ok_Streams_init 67 [] rfl (by refine ⟨?_, trivial⟩ <;> decide +kernel))
  have s8 := r_tr s7 (r_to (g' := (76, [.ref (mj_NE + 5), .ref (mj_NE + 1)], [], mj_pre xs L [.inr (8, [.ref (mj_NE + 1), .null, .null, .null, .null, .null, .null, .int 0]), .inr (4, [.ref (mj_NE + 2), .ref (mj_NE + 3), .ref (mj_NE + 4), .int 0, .int 0, .int 0]), mj_ia 256 (fun _ => 0), mj_ia 256 (fun _ => 0), mj_ia 2048 (fun _ => 0), .inr (6, [.null, .ref (mj_NE + 6), .ref (mj_NE + 7), .ref (mj_NE + 8), .ref (mj_NE + 9), .ref (mj_NE + 10), .ref (mj_NE + 11), .ref (mj_NE + 12), .ref (mj_NE + 13), .null, .null, .int 0]), mj_ia 256 (fun _ => 0), mj_ia 256 (fun _ => 0), mj_ia 256 (fun _ => 0), mj_ia 256 (fun _ => 0), mj_ia 256 (fun _ => 0), mj_ia 256 (fun _ => 0), mj_ia 256 (fun _ => 0), mj_ia 256 (fun _ => 0)], 8, 2048)) ok_Streams_init 76 [] rfl (by refine ⟨?_, trivial⟩ <;> decide +kernel))
  have s9 := r_tr s8 (r_to (g' := (85, [.ref (mj_NE + 5), .ref (mj_NE + 1)], [], mj_pre xs L [.inr (8, [.ref (mj_NE + 1), .null, .null, .null, .null, .null, .null, .int 0]), .inr (4, [.ref (mj_NE + 2), .ref (mj_NE + 3), .ref (mj_NE + 4), .int 0, .int 0, .int 0]), mj_ia 256 (fun _ => 0), mj_ia 256 (fun _ => 0), mj_ia 2048 (fun _ => 0), .inr (6, [.null, .ref (mj_NE + 6), .ref (mj_NE + 7), .ref (mj_NE + 8), .ref (mj_NE + 9), .ref (mj_NE + 10), .ref (mj_NE + 11), .ref (mj_NE + 12), .ref (mj_NE + 13), .ref (mj_NE + 14), .null, .int 0]), mj_ia 256 (fun _ => 0), mj_ia 256 (fun _ => 0), mj_ia 256 (fun _ => 0), mj_ia 256 (fun _ => 0), mj_ia 256 (fun _ => 0), mj_ia 256 (fun _ => 0), mj_ia 256 (fun _ => 0), mj_ia 256 (fun _ => 0), .inl (.boolean, 256, .inl (fun _ => 0))], 9, 2304)) ok_Streams_init 85 [] rfl (by refine ⟨?_, trivial⟩ <;> decide +kernel))
  have s10 := r_tr s9 (r_to (g' := (94, [.ref (mj_NE + 5), .ref (mj_NE + 1)], [], mj_pre xs L [.inr (8, [.ref (mj_NE + 1), .null, .null, .null, .null, .null, .null, .int 0]), .inr (4, [.ref (mj_NE + 2), .ref (mj_NE + 3), .ref (mj_NE + 4), .int 0, .int 0, .int 0]), mj_ia 256 (fun _ => 0), mj_ia 256 (fun _ => 0), mj_ia 2048 (fun _ => 0), .inr (6, [.null, .ref (mj_NE + 6), .ref (mj_NE + 7), .ref (mj_NE + 8), .ref (mj_NE + 9), .ref (mj_NE + 10), .ref (mj_NE + 11), .ref (mj_NE + 12), .ref (mj_NE + 13), .ref (mj_NE + 14), .ref (mj_NE + 15), .int 0]), mj_ia 256 (fun _ => 0), mj_ia 256 (fun _ => 0), mj_ia 256 (fun _ => 0), mj_ia 256 (fun _ => 0), mj_ia 256 (fun _ => 0), mj_ia 256 (fun _ => 0), mj_ia 256 (fun _ => 0), mj_ia 256 (fun _ => 0), .inl (.boolean, 256, .inl (fun _ => 0)), mj_ia 256 (fun _ => 0)], 10, 2560)) ok_Streams_init 94 [] rfl (by refine ⟨?_, trivial⟩ <;> decide +kernel))
  exact ct_of ok_Streams_init rfl (r_tr s10 (r_to ok_Streams_init 9999 [] rfl trivial)) rfl rfl rfl rfl rfl
set_option maxRecDepth 10000 in
theorem i_Frontier1 : mj_Ct m_Frontier_init [.ref (mj_NE + 18)] (mj_pre xs L [.inr (8, [.ref (mj_NE + 1), .ref (mj_NE + 5), .null, .null, .null, .null, .null, .int 0]), .inr (4, [.ref (mj_NE + 2), .ref (mj_NE + 3), .ref (mj_NE + 4), .int 0, .int 0, .int 0]), mj_ia 256 (fun _ => 0), mj_ia 256 (fun _ => 0), mj_ia 2048 (fun _ => 0), .inr (6, [.ref (mj_NE + 1), .ref (mj_NE + 6), .ref (mj_NE + 7), .ref (mj_NE + 8), .ref (mj_NE + 9), .ref (mj_NE + 10), .ref (mj_NE + 11), .ref (mj_NE + 12), .ref (mj_NE + 13), .ref (mj_NE + 14), .ref (mj_NE + 15), .int 0]), mj_ia 256 (fun _ => 0), mj_ia 256 (fun _ => 0), mj_ia 256 (fun _ => 0), mj_ia 256 (fun _ => 0), mj_ia 256 (fun _ => 0), mj_ia 256 (fun _ => 0), mj_ia 256 (fun _ => 0), mj_ia 256 (fun _ => 0), .inl (.boolean, 256, .inl (fun _ => 0)), mj_ia 256 (fun _ => 0), .inr (3, [.null, .ref (mj_NE + 17), .null, .null, .int 0]), mj_ia 256 (fun _ => 0), .inr (1, [.null, .int 0])]) none (mj_pre xs L [.inr (8, [.ref (mj_NE + 1), .ref (mj_NE + 5), .null, .null, .null, .null, .null, .int 0]), .inr (4, [.ref (mj_NE + 2), .ref (mj_NE + 3), .ref (mj_NE + 4), .int 0, .int 0, .int 0]), mj_ia 256 (fun _ => 0), mj_ia 256 (fun _ => 0), mj_ia 2048 (fun _ => 0), .inr (6, [.ref (mj_NE + 1), .ref (mj_NE + 6), .ref (mj_NE + 7), .ref (mj_NE + 8), .ref (mj_NE + 9), .ref (mj_NE + 10), .ref (mj_NE + 11), .ref (mj_NE + 12), .ref (mj_NE + 13), .ref (mj_NE + 14), .ref (mj_NE + 15), .int 0]), mj_ia 256 (fun _ => 0), mj_ia 256 (fun _ => 0), mj_ia 256 (fun _ => 0), mj_ia 256 (fun _ => 0), mj_ia 256 (fun _ => 0), mj_ia 256 (fun _ => 0), mj_ia 256 (fun _ => 0), mj_ia 256 (fun _ => 0), .inl (.boolean, 256, .inl (fun _ => 0)), mj_ia 256 (fun _ => 0), .inr (3, [.null, .ref (mj_NE + 17), .null, .null, .int 0]), mj_ia 256 (fun _ => 0), .inr (1, [.ref (mj_NE + 19), .int 0]), mj_ia 256 (fun _ => 0)]) 1 256 1 :=
  ct_of ok_Frontier_init rfl (r_tr (r_to ok_Frontier_init 1 [] rfl trivial) (r_tr (r_O ok_Frontier_init rfl rfl rfl) (r_to ok_Frontier_init 9999 [] rfl (by refine ⟨?_, trivial⟩ <;> decide +kernel)))) rfl rfl rfl rfl rfl
set_option maxRecDepth 10000 in
theorem i_Groups1 : mj_Ct m_Groups_init [.ref (mj_NE + 20)] (mj_pre xs L [.inr (8, [.ref (mj_NE + 1), .ref (mj_NE + 5), .null, .null, .null, .null, .null, .int 0]), .inr (4, [.ref (mj_NE + 2), .ref (mj_NE + 3), .ref (mj_NE + 4), .int 0, .int 0, .int 0]), mj_ia 256 (fun _ => 0), mj_ia 256 (fun _ => 0), mj_ia 2048 (fun _ => 0), .inr (6, [.ref (mj_NE + 1), .ref (mj_NE + 6), .ref (mj_NE + 7), .ref (mj_NE + 8), .ref (mj_NE + 9), .ref (mj_NE + 10), .ref (mj_NE + 11), .ref (mj_NE + 12), .ref (mj_NE + 13), .ref (mj_NE + 14), .ref (mj_NE + 15), .int 0]), mj_ia 256 (fun _ => 0), mj_ia 256 (fun _ => 0), mj_ia 256 (fun _ => 0), mj_ia 256 (fun _ => 0), mj_ia 256 (fun _ => 0), mj_ia 256 (fun _ => 0), mj_ia 256 (fun _ => 0), mj_ia 256 (fun _ => 0), .inl (.boolean, 256, .inl (fun _ => 0)), mj_ia 256 (fun _ => 0), .inr (3, [.null, .ref (mj_NE + 17), .ref (mj_NE + 18), .null, .int 0]), mj_ia 256 (fun _ => 0), .inr (1, [.ref (mj_NE + 19), .int 0]), mj_ia 256 (fun _ => 0), .inr (2, [.null])]) none (mj_pre xs L [.inr (8, [.ref (mj_NE + 1), .ref (mj_NE + 5), .null, .null, .null, .null, .null, .int 0]), .inr (4, [.ref (mj_NE + 2), .ref (mj_NE + 3), .ref (mj_NE + 4), .int 0, .int 0, .int 0]), mj_ia 256 (fun _ => 0), mj_ia 256 (fun _ => 0), mj_ia 2048 (fun _ => 0), .inr (6, [.ref (mj_NE + 1), .ref (mj_NE + 6), .ref (mj_NE + 7), .ref (mj_NE + 8), .ref (mj_NE + 9), .ref (mj_NE + 10), .ref (mj_NE + 11), .ref (mj_NE + 12), .ref (mj_NE + 13), .ref (mj_NE + 14), .ref (mj_NE + 15), .int 0]), mj_ia 256 (fun _ => 0), mj_ia 256 (fun _ => 0), mj_ia 256 (fun _ => 0), mj_ia 256 (fun _ => 0), mj_ia 256 (fun _ => 0), mj_ia 256 (fun _ => 0), mj_ia 256 (fun _ => 0), mj_ia 256 (fun _ => 0), .inl (.boolean, 256, .inl (fun _ => 0)), mj_ia 256 (fun _ => 0), .inr (3, [.null, .ref (mj_NE + 17), .ref (mj_NE + 18), .null, .int 0]), mj_ia 256 (fun _ => 0), .inr (1, [.ref (mj_NE + 19), .int 0]), mj_ia 256 (fun _ => 0), .inr (2, [.ref (mj_NE + 21)]), mj_ia 512 (fun _ => 0)]) 1 512 1 :=
  ct_of ok_Groups_init rfl (r_tr (r_to ok_Groups_init 1 [] rfl trivial) (r_tr (r_O ok_Groups_init rfl rfl rfl) (r_to ok_Groups_init 9999 [] rfl (by refine ⟨?_, trivial⟩ <;> decide +kernel)))) rfl rfl rfl rfl rfl
set_option maxRecDepth 10000 in
theorem i_Hollows : mj_Ct m_Hollows_init [.ref (mj_NE + 16), .ref (mj_NE + 1)] (mj_pre xs L [.inr (8, [.ref (mj_NE + 1), .ref (mj_NE + 5), .null, .null, .null, .null, .null, .int 0]), .inr (4, [.ref (mj_NE + 2), .ref (mj_NE + 3), .ref (mj_NE + 4), .int 0, .int 0, .int 0]), mj_ia 256 (fun _ => 0), mj_ia 256 (fun _ => 0), mj_ia 2048 (fun _ => 0), .inr (6, [.ref (mj_NE + 1), .ref (mj_NE + 6), .ref (mj_NE + 7), .ref (mj_NE + 8), .ref (mj_NE + 9), .ref (mj_NE + 10), .ref (mj_NE + 11), .ref (mj_NE + 12), .ref (mj_NE + 13), .ref (mj_NE + 14), .ref (mj_NE + 15), .int 0]), mj_ia 256 (fun _ => 0), mj_ia 256 (fun _ => 0), mj_ia 256 (fun _ => 0), mj_ia 256 (fun _ => 0), mj_ia 256 (fun _ => 0), mj_ia 256 (fun _ => 0), mj_ia 256 (fun _ => 0), mj_ia 256 (fun _ => 0), .inl (.boolean, 256, .inl (fun _ => 0)), mj_ia 256 (fun _ => 0), .inr (3, [.null, .null, .null, .null, .int 0])]) none (mj_pre xs L [.inr (8, [.ref (mj_NE + 1), .ref (mj_NE + 5), .null, .null, .null, .null, .null, .int 0]), .inr (4, [.ref (mj_NE + 2), .ref (mj_NE + 3), .ref (mj_NE + 4), .int 0, .int 0, .int 0]), mj_ia 256 (fun _ => 0), mj_ia 256 (fun _ => 0), mj_ia 2048 (fun _ => 0), .inr (6, [.ref (mj_NE + 1), .ref (mj_NE + 6), .ref (mj_NE + 7), .ref (mj_NE + 8), .ref (mj_NE + 9), .ref (mj_NE + 10), .ref (mj_NE + 11), .ref (mj_NE + 12), .ref (mj_NE + 13), .ref (mj_NE + 14), .ref (mj_NE + 15), .int 0]), mj_ia 256 (fun _ => 0), mj_ia 256 (fun _ => 0), mj_ia 256 (fun _ => 0), mj_ia 256 (fun _ => 0), mj_ia 256 (fun _ => 0), mj_ia 256 (fun _ => 0), mj_ia 256 (fun _ => 0), mj_ia 256 (fun _ => 0), .inl (.boolean, 256, .inl (fun _ => 0)), mj_ia 256 (fun _ => 0), .inr (3, [.ref (mj_NE + 1), .ref (mj_NE + 17), .ref (mj_NE + 18), .ref (mj_NE + 20), .int 0]), mj_ia 256 (fun _ => 0), .inr (1, [.ref (mj_NE + 19), .int 0]), mj_ia 256 (fun _ => 0), .inr (2, [.ref (mj_NE + 21)]), mj_ia 512 (fun _ => 0)]) 5 1027 2 := by
  have s1 := r_tr (r_to (RC := 5) (RS := 1027) (dd := 2) (g := (0, [.ref (mj_NE + 16), .ref (mj_NE + 1)], [], mj_pre xs L [.inr (8, [.ref (mj_NE + 1), .ref (mj_NE + 5), .null, .null, .null, .null, .null, .int 0]), .inr (4, [.ref (mj_NE + 2), .ref (mj_NE + 3), .ref (mj_NE + 4), .int 0, .int 0, .int 0]), mj_ia 256 (fun _ => 0), mj_ia 256 (fun _ => 0), mj_ia 2048 (fun _ => 0), .inr (6, [.ref (mj_NE + 1), .ref (mj_NE + 6), .ref (mj_NE + 7), .ref (mj_NE + 8), .ref (mj_NE + 9), .ref (mj_NE + 10), .ref (mj_NE + 11), .ref (mj_NE + 12), .ref (mj_NE + 13), .ref (mj_NE + 14), .ref (mj_NE + 15), .int 0]), mj_ia 256 (fun _ => 0), mj_ia 256 (fun _ => 0), mj_ia 256 (fun _ => 0), mj_ia 256 (fun _ => 0), mj_ia 256 (fun _ => 0), mj_ia 256 (fun _ => 0), mj_ia 256 (fun _ => 0), mj_ia 256 (fun _ => 0), .inl (.boolean, 256, .inl (fun _ => 0)), mj_ia 256 (fun _ => 0), .inr (3, [.null, .null, .null, .null, .int 0])], 0, 0)) ok_Hollows_init 1 [] rfl trivial) (r_O ok_Hollows_init rfl rfl rfl)
  have s2 := r_tr s1 (r_to (g' := (18, [.ref (mj_NE + 16), .ref (mj_NE + 1)], [.ref (mj_NE + 18), .ref (mj_NE + 18), .ref (mj_NE + 16)], mj_pre xs L [.inr (8, [.ref (mj_NE + 1), .ref (mj_NE + 5), .null, .null, .null, .null, .null, .int 0]), .inr (4, [.ref (mj_NE + 2), .ref (mj_NE + 3), .ref (mj_NE + 4), .int 0, .int 0, .int 0]), mj_ia 256 (fun _ => 0), mj_ia 256 (fun _ => 0), mj_ia 2048 (fun _ => 0), .inr (6, [.ref (mj_NE + 1), .ref (mj_NE + 6), .ref (mj_NE + 7), .ref (mj_NE + 8), .ref (mj_NE + 9), .ref (mj_NE + 10), .ref (mj_NE + 11), .ref (mj_NE + 12), .ref (mj_NE + 13), .ref (mj_NE + 14), .ref (mj_NE + 15), .int 0]), mj_ia 256 (fun _ => 0), mj_ia 256 (fun _ => 0), mj_ia 256 (fun _ => 0), mj_ia 256 (fun _ => 0), mj_ia 256 (fun _ => 0), mj_ia 256 (fun _ => 0), mj_ia 256 (fun _ => 0), mj_ia 256 (fun _ => 0), .inl (.boolean, 256, .inl (fun _ => 0)), mj_ia 256 (fun _ => 0), .inr (3, [.null, .ref (mj_NE + 17), .null, .null, .int 0]), mj_ia 256 (fun _ => 0), .inr (1, [.null, .int 0])], 2, 258)) ok_Hollows_init 9999 [] rfl (by refine ⟨?_, ?_, trivial⟩ <;> decide +kernel))
  have s3 := r_tr s2 (q_I ok_Hollows_init ok_Frontier_init in_Frontier_init i_Frontier1 rfl rfl rfl rfl ⟨rfl, rfl, rfl⟩)
  have s4 := r_tr s3 (r_to (g' := (29, [.ref (mj_NE + 16), .ref (mj_NE + 1)], [.ref (mj_NE + 20), .ref (mj_NE + 20), .ref (mj_NE + 16)], mj_pre xs L [.inr (8, [.ref (mj_NE + 1), .ref (mj_NE + 5), .null, .null, .null, .null, .null, .int 0]), .inr (4, [.ref (mj_NE + 2), .ref (mj_NE + 3), .ref (mj_NE + 4), .int 0, .int 0, .int 0]), mj_ia 256 (fun _ => 0), mj_ia 256 (fun _ => 0), mj_ia 2048 (fun _ => 0), .inr (6, [.ref (mj_NE + 1), .ref (mj_NE + 6), .ref (mj_NE + 7), .ref (mj_NE + 8), .ref (mj_NE + 9), .ref (mj_NE + 10), .ref (mj_NE + 11), .ref (mj_NE + 12), .ref (mj_NE + 13), .ref (mj_NE + 14), .ref (mj_NE + 15), .int 0]), mj_ia 256 (fun _ => 0), mj_ia 256 (fun _ => 0), mj_ia 256 (fun _ => 0), mj_ia 256 (fun _ => 0), mj_ia 256 (fun _ => 0), mj_ia 256 (fun _ => 0), mj_ia 256 (fun _ => 0), mj_ia 256 (fun _ => 0), .inl (.boolean, 256, .inl (fun _ => 0)), mj_ia 256 (fun _ => 0), .inr (3, [.null, .ref (mj_NE + 17), .ref (mj_NE + 18), .null, .int 0]), mj_ia 256 (fun _ => 0), .inr (1, [.ref (mj_NE + 19), .int 0]), mj_ia 256 (fun _ => 0), .inr (2, [.null])], 4, 515)) ok_Hollows_init 9999 [] rfl (by refine ⟨?_, trivial⟩ <;> decide +kernel))
  have s5 := r_tr s4 (q_I ok_Hollows_init ok_Groups_init in_Groups_init i_Groups1 rfl rfl rfl rfl ⟨rfl, rfl, rfl⟩)
  exact ct_of ok_Hollows_init rfl (r_tr s5 (r_to ok_Hollows_init 9999 [] rfl trivial)) rfl rfl rfl rfl rfl
set_option maxRecDepth 10000 in
theorem i_Groups2 : mj_Ct m_Groups_init [.ref (mj_NE + 24)] (mj_pre xs L [.inr (8, [.ref (mj_NE + 1), .ref (mj_NE + 5), .ref (mj_NE + 16), .null, .null, .null, .null, .int 0]), .inr (4, [.ref (mj_NE + 2), .ref (mj_NE + 3), .ref (mj_NE + 4), .int 0, .int 0, .int 0]), mj_ia 256 (fun _ => 0), mj_ia 256 (fun _ => 0), mj_ia 2048 (fun _ => 0), .inr (6, [.ref (mj_NE + 1), .ref (mj_NE + 6), .ref (mj_NE + 7), .ref (mj_NE + 8), .ref (mj_NE + 9), .ref (mj_NE + 10), .ref (mj_NE + 11), .ref (mj_NE + 12), .ref (mj_NE + 13), .ref (mj_NE + 14), .ref (mj_NE + 15), .int 0]), mj_ia 256 (fun _ => 0), mj_ia 256 (fun _ => 0), mj_ia 256 (fun _ => 0), mj_ia 256 (fun _ => 0), mj_ia 256 (fun _ => 0), mj_ia 256 (fun _ => 0), mj_ia 256 (fun _ => 0), mj_ia 256 (fun _ => 0), .inl (.boolean, 256, .inl (fun _ => 0)), mj_ia 256 (fun _ => 0), .inr (3, [.ref (mj_NE + 1), .ref (mj_NE + 17), .ref (mj_NE + 18), .ref (mj_NE + 20), .int 0]), mj_ia 256 (fun _ => 0), .inr (1, [.ref (mj_NE + 19), .int 0]), mj_ia 256 (fun _ => 0), .inr (2, [.ref (mj_NE + 21)]), mj_ia 512 (fun _ => 0), .inr (0, [.null, .ref (mj_NE + 23), .null, .int 0, .int 0, .int 0]), mj_ia 512 (fun _ => 0), .inr (2, [.null])]) none (mj_pre xs L [.inr (8, [.ref (mj_NE + 1), .ref (mj_NE + 5), .ref (mj_NE + 16), .null, .null, .null, .null, .int 0]), .inr (4, [.ref (mj_NE + 2), .ref (mj_NE + 3), .ref (mj_NE + 4), .int 0, .int 0, .int 0]), mj_ia 256 (fun _ => 0), mj_ia 256 (fun _ => 0), mj_ia 2048 (fun _ => 0), .inr (6, [.ref (mj_NE + 1), .ref (mj_NE + 6), .ref (mj_NE + 7), .ref (mj_NE + 8), .ref (mj_NE + 9), .ref (mj_NE + 10), .ref (mj_NE + 11), .ref (mj_NE + 12), .ref (mj_NE + 13), .ref (mj_NE + 14), .ref (mj_NE + 15), .int 0]), mj_ia 256 (fun _ => 0), mj_ia 256 (fun _ => 0), mj_ia 256 (fun _ => 0), mj_ia 256 (fun _ => 0), mj_ia 256 (fun _ => 0), mj_ia 256 (fun _ => 0), mj_ia 256 (fun _ => 0), mj_ia 256 (fun _ => 0), .inl (.boolean, 256, .inl (fun _ => 0)), mj_ia 256 (fun _ => 0), .inr (3, [.ref (mj_NE + 1), .ref (mj_NE + 17), .ref (mj_NE + 18), .ref (mj_NE + 20), .int 0]), mj_ia 256 (fun _ => 0), .inr (1, [.ref (mj_NE + 19), .int 0]), mj_ia 256 (fun _ => 0), .inr (2, [.ref (mj_NE + 21)]), mj_ia 512 (fun _ => 0), .inr (0, [.null, .ref (mj_NE + 23), .null, .int 0, .int 0, .int 0]), mj_ia 512 (fun _ => 0), .inr (2, [.ref (mj_NE + 25)]), mj_ia 512 (fun _ => 0)]) 1 512 1 :=
  ct_of ok_Groups_init rfl (r_tr (r_to ok_Groups_init 1 [] rfl trivial) (r_tr (r_O ok_Groups_init rfl rfl rfl) (r_to ok_Groups_init 9999 [] rfl (by refine ⟨?_, trivial⟩ <;> decide +kernel)))) rfl rfl rfl rfl rfl
set_option maxRecDepth 10000 in
theorem i_Contours : mj_Ct m_Contours_init [.ref (mj_NE + 22), .ref (mj_NE + 1)] (mj_pre xs L [.inr (8, [.ref (mj_NE + 1), .ref (mj_NE + 5), .ref (mj_NE + 16), .null, .null, .null, .null, .int 0]), .inr (4, [.ref (mj_NE + 2), .ref (mj_NE + 3), .ref (mj_NE + 4), .int 0, .int 0, .int 0]), mj_ia 256 (fun _ => 0), mj_ia 256 (fun _ => 0), mj_ia 2048 (fun _ => 0), .inr (6, [.ref (mj_NE + 1), .ref (mj_NE + 6), .ref (mj_NE + 7), .ref (mj_NE + 8), .ref (mj_NE + 9), .ref (mj_NE + 10), .ref (mj_NE + 11), .ref (mj_NE + 12), .ref (mj_NE + 13), .ref (mj_NE + 14), .ref (mj_NE + 15), .int 0]), mj_ia 256 (fun _ => 0), mj_ia 256 (fun _ => 0), mj_ia 256 (fun _ => 0), mj_ia 256 (fun _ => 0), mj_ia 256 (fun _ => 0), mj_ia 256 (fun _ => 0), mj_ia 256 (fun _ => 0), mj_ia 256 (fun _ => 0), .inl (.boolean, 256, .inl (fun _ => 0)), mj_ia 256 (fun _ => 0), .inr (3, [.ref (mj_NE + 1), .ref (mj_NE + 17), .ref (mj_NE + 18), .ref (mj_NE + 20), .int 0]), mj_ia 256 (fun _ => 0), .inr (1, [.ref (mj_NE + 19), .int 0]), mj_ia 256 (fun _ => 0), .inr (2, [.ref (mj_NE + 21)]), mj_ia 512 (fun _ => 0), .inr (0, [.null, .null, .null, .int 0, .int 0, .int 0])]) none (mj_pre xs L [.inr (8, [.ref (mj_NE + 1), .ref (mj_NE + 5), .ref (mj_NE + 16), .null, .null, .null, .null, .int 0]), .inr (4, [.ref (mj_NE + 2), .ref (mj_NE + 3), .ref (mj_NE + 4), .int 0, .int 0, .int 0]), mj_ia 256 (fun _ => 0), mj_ia 256 (fun _ => 0), mj_ia 2048 (fun _ => 0), .inr (6, [.ref (mj_NE + 1), .ref (mj_NE + 6), .ref (mj_NE + 7), .ref (mj_NE + 8), .ref (mj_NE + 9), .ref (mj_NE + 10), .ref (mj_NE + 11), .ref (mj_NE + 12), .ref (mj_NE + 13), .ref (mj_NE + 14), .ref (mj_NE + 15), .int 0]), mj_ia 256 (fun _ => 0), mj_ia 256 (fun _ => 0), mj_ia 256 (fun _ => 0), mj_ia 256 (fun _ => 0), mj_ia 256 (fun _ => 0), mj_ia 256 (fun _ => 0), mj_ia 256 (fun _ => 0), mj_ia 256 (fun _ => 0), .inl (.boolean, 256, .inl (fun _ => 0)), mj_ia 256 (fun _ => 0), .inr (3, [.ref (mj_NE + 1), .ref (mj_NE + 17), .ref (mj_NE + 18), .ref (mj_NE + 20), .int 0]), mj_ia 256 (fun _ => 0), .inr (1, [.ref (mj_NE + 19), .int 0]), mj_ia 256 (fun _ => 0), .inr (2, [.ref (mj_NE + 21)]), mj_ia 512 (fun _ => 0), .inr (0, [.ref (mj_NE + 1), .ref (mj_NE + 23), .ref (mj_NE + 24), .int 0, .int 0, .int 0]), mj_ia 512 (fun _ => 0), .inr (2, [.ref (mj_NE + 25)]), mj_ia 512 (fun _ => 0)]) 3 1025 2 := by
  have s1 := r_tr (r_to (RC := 3) (RS := 1025) (dd := 2) (g := (0, [.ref (mj_NE + 22), .ref (mj_NE + 1)], [], mj_pre xs L [.inr (8, [.ref (mj_NE + 1), .ref (mj_NE + 5), .ref (mj_NE + 16), .null, .null, .null, .null, .int 0]), .inr (4, [.ref (mj_NE + 2), .ref (mj_NE + 3), .ref (mj_NE + 4), .int 0, .int 0, .int 0]), mj_ia 256 (fun _ => 0), mj_ia 256 (fun _ => 0), mj_ia 2048 (fun _ => 0), .inr (6, [.ref (mj_NE + 1), .ref (mj_NE + 6), .ref (mj_NE + 7), .ref (mj_NE + 8), .ref (mj_NE + 9), .ref (mj_NE + 10), .ref (mj_NE + 11), .ref (mj_NE + 12), .ref (mj_NE + 13), .ref (mj_NE + 14), .ref (mj_NE + 15), .int 0]), mj_ia 256 (fun _ => 0), mj_ia 256 (fun _ => 0), mj_ia 256 (fun _ => 0), mj_ia 256 (fun _ => 0), mj_ia 256 (fun _ => 0), mj_ia 256 (fun _ => 0), mj_ia 256 (fun _ => 0), mj_ia 256 (fun _ => 0), .inl (.boolean, 256, .inl (fun _ => 0)), mj_ia 256 (fun _ => 0), .inr (3, [.ref (mj_NE + 1), .ref (mj_NE + 17), .ref (mj_NE + 18), .ref (mj_NE + 20), .int 0]), mj_ia 256 (fun _ => 0), .inr (1, [.ref (mj_NE + 19), .int 0]), mj_ia 256 (fun _ => 0), .inr (2, [.ref (mj_NE + 21)]), mj_ia 512 (fun _ => 0), .inr (0, [.null, .null, .null, .int 0, .int 0, .int 0])], 0, 0)) ok_Contours_init 1 [] rfl trivial) (r_O ok_Contours_init rfl rfl rfl)
  have s2 := r_tr s1 (r_to (g' := (18, [.ref (mj_NE + 22), .ref (mj_NE + 1)], [.ref (mj_NE + 24), .ref (mj_NE + 24), .ref (mj_NE + 22)], mj_pre xs L [.inr (8, [.ref (mj_NE + 1), .ref (mj_NE + 5), .ref (mj_NE + 16), .null, .null, .null, .null, .int 0]), .inr (4, [.ref (mj_NE + 2), .ref (mj_NE + 3), .ref (mj_NE + 4), .int 0, .int 0, .int 0]), mj_ia 256 (fun _ => 0), mj_ia 256 (fun _ => 0), mj_ia 2048 (fun _ => 0), .inr (6, [.ref (mj_NE + 1), .ref (mj_NE + 6), .ref (mj_NE + 7), .ref (mj_NE + 8), .ref (mj_NE + 9), .ref (mj_NE + 10), .ref (mj_NE + 11), .ref (mj_NE + 12), .ref (mj_NE + 13), .ref (mj_NE + 14), .ref (mj_NE + 15), .int 0]), mj_ia 256 (fun _ => 0), mj_ia 256 (fun _ => 0), mj_ia 256 (fun _ => 0), mj_ia 256 (fun _ => 0), mj_ia 256 (fun _ => 0), mj_ia 256 (fun _ => 0), mj_ia 256 (fun _ => 0), mj_ia 256 (fun _ => 0), .inl (.boolean, 256, .inl (fun _ => 0)), mj_ia 256 (fun _ => 0), .inr (3, [.ref (mj_NE + 1), .ref (mj_NE + 17), .ref (mj_NE + 18), .ref (mj_NE + 20), .int 0]), mj_ia 256 (fun _ => 0), .inr (1, [.ref (mj_NE + 19), .int 0]), mj_ia 256 (fun _ => 0), .inr (2, [.ref (mj_NE + 21)]), mj_ia 512 (fun _ => 0), .inr (0, [.null, .ref (mj_NE + 23), .null, .int 0, .int 0, .int 0]), mj_ia 512 (fun _ => 0), .inr (2, [.null])], 2, 513)) ok_Contours_init 9999 [] rfl (by refine ⟨?_, ?_, trivial⟩ <;> decide +kernel))
  have s3 := r_tr s2 (q_I ok_Contours_init ok_Groups_init in_Groups_init i_Groups2 rfl rfl rfl rfl ⟨rfl, rfl, rfl⟩)
  exact ct_of ok_Contours_init rfl (r_tr s3 (r_to ok_Contours_init 9999 [] rfl trivial)) rfl rfl rfl rfl rfl
set_option maxRecDepth 10000 in
theorem i_Sight : mj_Ct m_Sight_init [.ref (mj_NE + 26), .ref (mj_NE + 1)] (mj_pre xs L [.inr (8, [.ref (mj_NE + 1), .ref (mj_NE + 5), .ref (mj_NE + 16), .ref (mj_NE + 22), .null, .null, .null, .int 0]), .inr (4, [.ref (mj_NE + 2), .ref (mj_NE + 3), .ref (mj_NE + 4), .int 0, .int 0, .int 0]), mj_ia 256 (fun _ => 0), mj_ia 256 (fun _ => 0), mj_ia 2048 (fun _ => 0), .inr (6, [.ref (mj_NE + 1), .ref (mj_NE + 6), .ref (mj_NE + 7), .ref (mj_NE + 8), .ref (mj_NE + 9), .ref (mj_NE + 10), .ref (mj_NE + 11), .ref (mj_NE + 12), .ref (mj_NE + 13), .ref (mj_NE + 14), .ref (mj_NE + 15), .int 0]), mj_ia 256 (fun _ => 0), mj_ia 256 (fun _ => 0), mj_ia 256 (fun _ => 0), mj_ia 256 (fun _ => 0), mj_ia 256 (fun _ => 0), mj_ia 256 (fun _ => 0), mj_ia 256 (fun _ => 0), mj_ia 256 (fun _ => 0), .inl (.boolean, 256, .inl (fun _ => 0)), mj_ia 256 (fun _ => 0), .inr (3, [.ref (mj_NE + 1), .ref (mj_NE + 17), .ref (mj_NE + 18), .ref (mj_NE + 20), .int 0]), mj_ia 256 (fun _ => 0), .inr (1, [.ref (mj_NE + 19), .int 0]), mj_ia 256 (fun _ => 0), .inr (2, [.ref (mj_NE + 21)]), mj_ia 512 (fun _ => 0), .inr (0, [.ref (mj_NE + 1), .ref (mj_NE + 23), .ref (mj_NE + 24), .int 0, .int 0, .int 0]), mj_ia 512 (fun _ => 0), .inr (2, [.ref (mj_NE + 25)]), mj_ia 512 (fun _ => 0), .inr (5, [.null])]) none (mj_pre xs L [.inr (8, [.ref (mj_NE + 1), .ref (mj_NE + 5), .ref (mj_NE + 16), .ref (mj_NE + 22), .null, .null, .null, .int 0]), .inr (4, [.ref (mj_NE + 2), .ref (mj_NE + 3), .ref (mj_NE + 4), .int 0, .int 0, .int 0]), mj_ia 256 (fun _ => 0), mj_ia 256 (fun _ => 0), mj_ia 2048 (fun _ => 0), .inr (6, [.ref (mj_NE + 1), .ref (mj_NE + 6), .ref (mj_NE + 7), .ref (mj_NE + 8), .ref (mj_NE + 9), .ref (mj_NE + 10), .ref (mj_NE + 11), .ref (mj_NE + 12), .ref (mj_NE + 13), .ref (mj_NE + 14), .ref (mj_NE + 15), .int 0]), mj_ia 256 (fun _ => 0), mj_ia 256 (fun _ => 0), mj_ia 256 (fun _ => 0), mj_ia 256 (fun _ => 0), mj_ia 256 (fun _ => 0), mj_ia 256 (fun _ => 0), mj_ia 256 (fun _ => 0), mj_ia 256 (fun _ => 0), .inl (.boolean, 256, .inl (fun _ => 0)), mj_ia 256 (fun _ => 0), .inr (3, [.ref (mj_NE + 1), .ref (mj_NE + 17), .ref (mj_NE + 18), .ref (mj_NE + 20), .int 0]), mj_ia 256 (fun _ => 0), .inr (1, [.ref (mj_NE + 19), .int 0]), mj_ia 256 (fun _ => 0), .inr (2, [.ref (mj_NE + 21)]), mj_ia 512 (fun _ => 0), .inr (0, [.ref (mj_NE + 1), .ref (mj_NE + 23), .ref (mj_NE + 24), .int 0, .int 0, .int 0]), mj_ia 512 (fun _ => 0), .inr (2, [.ref (mj_NE + 25)]), mj_ia 512 (fun _ => 0), .inr (5, [.ref (mj_NE + 1)])]) 0 0 1 :=
  ct_of ok_Sight_init rfl (r_tr (r_to ok_Sight_init 1 [] rfl trivial) (r_tr (r_O ok_Sight_init rfl rfl rfl) (r_to ok_Sight_init 9999 [] rfl trivial))) rfl rfl rfl rfl rfl
set_option maxRecDepth 10000 in
theorem i_Frontier2 : mj_Ct m_Frontier_init [.ref (mj_NE + 29)] (mj_pre xs L [.inr (8, [.ref (mj_NE + 1), .ref (mj_NE + 5), .ref (mj_NE + 16), .ref (mj_NE + 22), .ref (mj_NE + 26), .null, .null, .int 0]), .inr (4, [.ref (mj_NE + 2), .ref (mj_NE + 3), .ref (mj_NE + 4), .int 0, .int 0, .int 0]), mj_ia 256 (fun _ => 0), mj_ia 256 (fun _ => 0), mj_ia 2048 (fun _ => 0), .inr (6, [.ref (mj_NE + 1), .ref (mj_NE + 6), .ref (mj_NE + 7), .ref (mj_NE + 8), .ref (mj_NE + 9), .ref (mj_NE + 10), .ref (mj_NE + 11), .ref (mj_NE + 12), .ref (mj_NE + 13), .ref (mj_NE + 14), .ref (mj_NE + 15), .int 0]), mj_ia 256 (fun _ => 0), mj_ia 256 (fun _ => 0), mj_ia 256 (fun _ => 0), mj_ia 256 (fun _ => 0), mj_ia 256 (fun _ => 0), mj_ia 256 (fun _ => 0), mj_ia 256 (fun _ => 0), mj_ia 256 (fun _ => 0), .inl (.boolean, 256, .inl (fun _ => 0)), mj_ia 256 (fun _ => 0), .inr (3, [.ref (mj_NE + 1), .ref (mj_NE + 17), .ref (mj_NE + 18), .ref (mj_NE + 20), .int 0]), mj_ia 256 (fun _ => 0), .inr (1, [.ref (mj_NE + 19), .int 0]), mj_ia 256 (fun _ => 0), .inr (2, [.ref (mj_NE + 21)]), mj_ia 512 (fun _ => 0), .inr (0, [.ref (mj_NE + 1), .ref (mj_NE + 23), .ref (mj_NE + 24), .int 0, .int 0, .int 0]), mj_ia 512 (fun _ => 0), .inr (2, [.ref (mj_NE + 25)]), mj_ia 512 (fun _ => 0), .inr (5, [.ref (mj_NE + 1)]), .inr (7, [.null, .ref (mj_NE + 28), .null]), mj_ia 256 (fun _ => 0), .inr (1, [.null, .int 0])]) none (mj_pre xs L [.inr (8, [.ref (mj_NE + 1), .ref (mj_NE + 5), .ref (mj_NE + 16), .ref (mj_NE + 22), .ref (mj_NE + 26), .null, .null, .int 0]), .inr (4, [.ref (mj_NE + 2), .ref (mj_NE + 3), .ref (mj_NE + 4), .int 0, .int 0, .int 0]), mj_ia 256 (fun _ => 0), mj_ia 256 (fun _ => 0), mj_ia 2048 (fun _ => 0), .inr (6, [.ref (mj_NE + 1), .ref (mj_NE + 6), .ref (mj_NE + 7), .ref (mj_NE + 8), .ref (mj_NE + 9), .ref (mj_NE + 10), .ref (mj_NE + 11), .ref (mj_NE + 12), .ref (mj_NE + 13), .ref (mj_NE + 14), .ref (mj_NE + 15), .int 0]), mj_ia 256 (fun _ => 0), mj_ia 256 (fun _ => 0), mj_ia 256 (fun _ => 0), mj_ia 256 (fun _ => 0), mj_ia 256 (fun _ => 0), mj_ia 256 (fun _ => 0), mj_ia 256 (fun _ => 0), mj_ia 256 (fun _ => 0), .inl (.boolean, 256, .inl (fun _ => 0)), mj_ia 256 (fun _ => 0), .inr (3, [.ref (mj_NE + 1), .ref (mj_NE + 17), .ref (mj_NE + 18), .ref (mj_NE + 20), .int 0]), mj_ia 256 (fun _ => 0), .inr (1, [.ref (mj_NE + 19), .int 0]), mj_ia 256 (fun _ => 0), .inr (2, [.ref (mj_NE + 21)]), mj_ia 512 (fun _ => 0), .inr (0, [.ref (mj_NE + 1), .ref (mj_NE + 23), .ref (mj_NE + 24), .int 0, .int 0, .int 0]), mj_ia 512 (fun _ => 0), .inr (2, [.ref (mj_NE + 25)]), mj_ia 512 (fun _ => 0), .inr (5, [.ref (mj_NE + 1)]), .inr (7, [.null, .ref (mj_NE + 28), .null]), mj_ia 256 (fun _ => 0), .inr (1, [.ref (mj_NE + 30), .int 0]), mj_ia 256 (fun _ => 0)]) 1 256 1 :=
  ct_of ok_Frontier_init rfl (r_tr (r_to ok_Frontier_init 1 [] rfl trivial) (r_tr (r_O ok_Frontier_init rfl rfl rfl) (r_to ok_Frontier_init 9999 [] rfl (by refine ⟨?_, trivial⟩ <;> decide +kernel)))) rfl rfl rfl rfl rfl
set_option maxRecDepth 10000 in
theorem i_Ways : mj_Ct m_Ways_init [.ref (mj_NE + 27), .ref (mj_NE + 1)] (mj_pre xs L [.inr (8, [.ref (mj_NE + 1), .ref (mj_NE + 5), .ref (mj_NE + 16), .ref (mj_NE + 22), .ref (mj_NE + 26), .null, .null, .int 0]), .inr (4, [.ref (mj_NE + 2), .ref (mj_NE + 3), .ref (mj_NE + 4), .int 0, .int 0, .int 0]), mj_ia 256 (fun _ => 0), mj_ia 256 (fun _ => 0), mj_ia 2048 (fun _ => 0), .inr (6, [.ref (mj_NE + 1), .ref (mj_NE + 6), .ref (mj_NE + 7), .ref (mj_NE + 8), .ref (mj_NE + 9), .ref (mj_NE + 10), .ref (mj_NE + 11), .ref (mj_NE + 12), .ref (mj_NE + 13), .ref (mj_NE + 14), .ref (mj_NE + 15), .int 0]), mj_ia 256 (fun _ => 0), mj_ia 256 (fun _ => 0), mj_ia 256 (fun _ => 0), mj_ia 256 (fun _ => 0), mj_ia 256 (fun _ => 0), mj_ia 256 (fun _ => 0), mj_ia 256 (fun _ => 0), mj_ia 256 (fun _ => 0), .inl (.boolean, 256, .inl (fun _ => 0)), mj_ia 256 (fun _ => 0), .inr (3, [.ref (mj_NE + 1), .ref (mj_NE + 17), .ref (mj_NE + 18), .ref (mj_NE + 20), .int 0]), mj_ia 256 (fun _ => 0), .inr (1, [.ref (mj_NE + 19), .int 0]), mj_ia 256 (fun _ => 0), .inr (2, [.ref (mj_NE + 21)]), mj_ia 512 (fun _ => 0), .inr (0, [.ref (mj_NE + 1), .ref (mj_NE + 23), .ref (mj_NE + 24), .int 0, .int 0, .int 0]), mj_ia 512 (fun _ => 0), .inr (2, [.ref (mj_NE + 25)]), mj_ia 512 (fun _ => 0), .inr (5, [.ref (mj_NE + 1)]), .inr (7, [.null, .null, .null])]) none (mj_pre xs L [.inr (8, [.ref (mj_NE + 1), .ref (mj_NE + 5), .ref (mj_NE + 16), .ref (mj_NE + 22), .ref (mj_NE + 26), .null, .null, .int 0]), .inr (4, [.ref (mj_NE + 2), .ref (mj_NE + 3), .ref (mj_NE + 4), .int 0, .int 0, .int 0]), mj_ia 256 (fun _ => 0), mj_ia 256 (fun _ => 0), mj_ia 2048 (fun _ => 0), .inr (6, [.ref (mj_NE + 1), .ref (mj_NE + 6), .ref (mj_NE + 7), .ref (mj_NE + 8), .ref (mj_NE + 9), .ref (mj_NE + 10), .ref (mj_NE + 11), .ref (mj_NE + 12), .ref (mj_NE + 13), .ref (mj_NE + 14), .ref (mj_NE + 15), .int 0]), mj_ia 256 (fun _ => 0), mj_ia 256 (fun _ => 0), mj_ia 256 (fun _ => 0), mj_ia 256 (fun _ => 0), mj_ia 256 (fun _ => 0), mj_ia 256 (fun _ => 0), mj_ia 256 (fun _ => 0), mj_ia 256 (fun _ => 0), .inl (.boolean, 256, .inl (fun _ => 0)), mj_ia 256 (fun _ => 0), .inr (3, [.ref (mj_NE + 1), .ref (mj_NE + 17), .ref (mj_NE + 18), .ref (mj_NE + 20), .int 0]), mj_ia 256 (fun _ => 0), .inr (1, [.ref (mj_NE + 19), .int 0]), mj_ia 256 (fun _ => 0), .inr (2, [.ref (mj_NE + 21)]), mj_ia 512 (fun _ => 0), .inr (0, [.ref (mj_NE + 1), .ref (mj_NE + 23), .ref (mj_NE + 24), .int 0, .int 0, .int 0]), mj_ia 512 (fun _ => 0), .inr (2, [.ref (mj_NE + 25)]), mj_ia 512 (fun _ => 0), .inr (5, [.ref (mj_NE + 1)]), .inr (7, [.ref (mj_NE + 1), .ref (mj_NE + 28), .ref (mj_NE + 29)]), mj_ia 256 (fun _ => 0), .inr (1, [.ref (mj_NE + 30), .int 0]), mj_ia 256 (fun _ => 0)]) 3 514 2 := by
  have s1 := r_tr (r_to (RC := 3) (RS := 514) (dd := 2) (g := (0, [.ref (mj_NE + 27), .ref (mj_NE + 1)], [], mj_pre xs L [.inr (8, [.ref (mj_NE + 1), .ref (mj_NE + 5), .ref (mj_NE + 16), .ref (mj_NE + 22), .ref (mj_NE + 26), .null, .null, .int 0]), .inr (4, [.ref (mj_NE + 2), .ref (mj_NE + 3), .ref (mj_NE + 4), .int 0, .int 0, .int 0]), mj_ia 256 (fun _ => 0), mj_ia 256 (fun _ => 0), mj_ia 2048 (fun _ => 0), .inr (6, [.ref (mj_NE + 1), .ref (mj_NE + 6), .ref (mj_NE + 7), .ref (mj_NE + 8), .ref (mj_NE + 9), .ref (mj_NE + 10), .ref (mj_NE + 11), .ref (mj_NE + 12), .ref (mj_NE + 13), .ref (mj_NE + 14), .ref (mj_NE + 15), .int 0]), mj_ia 256 (fun _ => 0), mj_ia 256 (fun _ => 0), mj_ia 256 (fun _ => 0), mj_ia 256 (fun _ => 0), mj_ia 256 (fun _ => 0), mj_ia 256 (fun _ => 0), mj_ia 256 (fun _ => 0), mj_ia 256 (fun _ => 0), .inl (.boolean, 256, .inl (fun _ => 0)), mj_ia 256 (fun _ => 0), .inr (3, [.ref (mj_NE + 1), .ref (mj_NE + 17), .ref (mj_NE + 18), .ref (mj_NE + 20), .int 0]), mj_ia 256 (fun _ => 0), .inr (1, [.ref (mj_NE + 19), .int 0]), mj_ia 256 (fun _ => 0), .inr (2, [.ref (mj_NE + 21)]), mj_ia 512 (fun _ => 0), .inr (0, [.ref (mj_NE + 1), .ref (mj_NE + 23), .ref (mj_NE + 24), .int 0, .int 0, .int 0]), mj_ia 512 (fun _ => 0), .inr (2, [.ref (mj_NE + 25)]), mj_ia 512 (fun _ => 0), .inr (5, [.ref (mj_NE + 1)]), .inr (7, [.null, .null, .null])], 0, 0)) ok_Ways_init 1 [] rfl trivial) (r_O ok_Ways_init rfl rfl rfl)
  have s2 := r_tr s1 (r_to (g' := (18, [.ref (mj_NE + 27), .ref (mj_NE + 1)], [.ref (mj_NE + 29), .ref (mj_NE + 29), .ref (mj_NE + 27)], mj_pre xs L [.inr (8, [.ref (mj_NE + 1), .ref (mj_NE + 5), .ref (mj_NE + 16), .ref (mj_NE + 22), .ref (mj_NE + 26), .null, .null, .int 0]), .inr (4, [.ref (mj_NE + 2), .ref (mj_NE + 3), .ref (mj_NE + 4), .int 0, .int 0, .int 0]), mj_ia 256 (fun _ => 0), mj_ia 256 (fun _ => 0), mj_ia 2048 (fun _ => 0), .inr (6, [.ref (mj_NE + 1), .ref (mj_NE + 6), .ref (mj_NE + 7), .ref (mj_NE + 8), .ref (mj_NE + 9), .ref (mj_NE + 10), .ref (mj_NE + 11), .ref (mj_NE + 12), .ref (mj_NE + 13), .ref (mj_NE + 14), .ref (mj_NE + 15), .int 0]), mj_ia 256 (fun _ => 0), mj_ia 256 (fun _ => 0), mj_ia 256 (fun _ => 0), mj_ia 256 (fun _ => 0), mj_ia 256 (fun _ => 0), mj_ia 256 (fun _ => 0), mj_ia 256 (fun _ => 0), mj_ia 256 (fun _ => 0), .inl (.boolean, 256, .inl (fun _ => 0)), mj_ia 256 (fun _ => 0), .inr (3, [.ref (mj_NE + 1), .ref (mj_NE + 17), .ref (mj_NE + 18), .ref (mj_NE + 20), .int 0]), mj_ia 256 (fun _ => 0), .inr (1, [.ref (mj_NE + 19), .int 0]), mj_ia 256 (fun _ => 0), .inr (2, [.ref (mj_NE + 21)]), mj_ia 512 (fun _ => 0), .inr (0, [.ref (mj_NE + 1), .ref (mj_NE + 23), .ref (mj_NE + 24), .int 0, .int 0, .int 0]), mj_ia 512 (fun _ => 0), .inr (2, [.ref (mj_NE + 25)]), mj_ia 512 (fun _ => 0), .inr (5, [.ref (mj_NE + 1)]), .inr (7, [.null, .ref (mj_NE + 28), .null]), mj_ia 256 (fun _ => 0), .inr (1, [.null, .int 0])], 2, 258)) ok_Ways_init 9999 [] rfl (by refine ⟨?_, ?_, trivial⟩ <;> decide +kernel))
  have s3 := r_tr s2 (q_I ok_Ways_init ok_Frontier_init in_Frontier_init i_Frontier2 rfl rfl rfl rfl ⟨rfl, rfl, rfl⟩)
  exact ct_of ok_Ways_init rfl (r_tr s3 (r_to ok_Ways_init 9999 [] rfl trivial)) rfl rfl rfl rfl rfl
/-- a new map: 12 times 12, all flat -/
abbrev V00 : Nat → Int32 := fun k => if k = 10 then 5 else 0
set_option maxRecDepth 10000 in
set_option maxHeartbeats 1000000 in
theorem i_W : ∃ f : Nat → Int32, nbOK 12 12 f 144 ∧ mj_Ct m_W_init [.ref (mj_NE + 0)] (mj_pre xs L [.inr (8, [.null, .null, .null, .null, .null, .null, .null, .int 0])]) none (Wd xs L (wA (wA (fun _ _ => 0) 0 (fl (fun _ => 0) 0 256)) 2 f) (wV (wV (wV V00 0 (iI 12)) 1 (iI 12)) 2 (iI (12 * 12))) []) 31 7975 3 := by
  have s1 := r_tr (r_to (RC := 31) (RS := 7975) (dd := 3) (g := (0, [.ref (mj_NE + 0)], [], mj_pre xs L [.inr (8, [.null, .null, .null, .null, .null, .null, .null, .int 0])], 0, 0)) ok_W_init 1 [] rfl trivial) (r_O ok_W_init rfl rfl rfl)
  have a0 := r_tr s1 (r_to (g' := (9, [.ref (mj_NE + 0)], [.ref (mj_NE + 1), .ref (mj_NE + 1), .ref (mj_NE + 0)], mj_pre xs L [.inr (8, [.null, .null, .null, .null, .null, .null, .null, .int 0]), .inr (4, [.null, .null, .null, .int 0, .int 0, .int 0])], 1, 6)) ok_W_init 9999 [] rfl (by refine ⟨?_, trivial⟩ <;> decide +kernel))
  have b0 := r_tr a0 (q_I ok_W_init ok_Land_init in_Land_init i_Land rfl rfl rfl rfl ⟨rfl, rfl, rfl⟩)
  have a1 := r_tr b0 (r_to (g' := (24, [.ref (mj_NE + 0)], [.ref (mj_NE + 1), .ref (mj_NE + 5), .ref (mj_NE + 5), .ref (mj_NE + 0)], mj_pre xs L [.inr (8, [.ref (mj_NE + 1), .null, .null, .null, .null, .null, .null, .int 0]), .inr (4, [.ref (mj_NE + 2), .ref (mj_NE + 3), .ref (mj_NE + 4), .int 0, .int 0, .int 0]), mj_ia 256 (fun _ => 0), mj_ia 256 (fun _ => 0), mj_ia 2048 (fun _ => 0), .inr (6, [.null, .null, .null, .null, .null, .null, .null, .null, .null, .null, .null, .int 0])], 5, 2578)) ok_W_init 9999 [] rfl (by refine ⟨?_, trivial⟩ <;> decide +kernel))
  have b1 := r_tr a1 (q_I ok_W_init ok_Streams_init in_Streams_init i_Streams rfl rfl rfl rfl ⟨rfl, rfl, rfl⟩)
  have a2 := r_tr b1 (r_to (g' := (39, [.ref (mj_NE + 0)], [.ref (mj_NE + 1), .ref (mj_NE + 16), .ref (mj_NE + 16), .ref (mj_NE + 0)], mj_pre xs L [.inr (8, [.ref (mj_NE + 1), .ref (mj_NE + 5), .null, .null, .null, .null, .null, .int 0]), .inr (4, [.ref (mj_NE + 2), .ref (mj_NE + 3), .ref (mj_NE + 4), .int 0, .int 0, .int 0]), mj_ia 256 (fun _ => 0), mj_ia 256 (fun _ => 0), mj_ia 2048 (fun _ => 0), .inr (6, [.ref (mj_NE + 1), .ref (mj_NE + 6), .ref (mj_NE + 7), .ref (mj_NE + 8), .ref (mj_NE + 9), .ref (mj_NE + 10), .ref (mj_NE + 11), .ref (mj_NE + 12), .ref (mj_NE + 13), .ref (mj_NE + 14), .ref (mj_NE + 15), .int 0]), mj_ia 256 (fun _ => 0), mj_ia 256 (fun _ => 0), mj_ia 256 (fun _ => 0), mj_ia 256 (fun _ => 0), mj_ia 256 (fun _ => 0), mj_ia 256 (fun _ => 0), mj_ia 256 (fun _ => 0), mj_ia 256 (fun _ => 0), .inl (.boolean, 256, .inl (fun _ => 0)), mj_ia 256 (fun _ => 0), .inr (3, [.null, .null, .null, .null, .int 0])], 16, 5143)) ok_W_init 9999 [] rfl (by refine ⟨?_, trivial⟩ <;> decide +kernel))
  have b2 := r_tr a2 (q_I ok_W_init ok_Hollows_init in_Hollows_init i_Hollows rfl rfl rfl rfl ⟨rfl, rfl, rfl⟩)
  have a3 := r_tr b2 (r_to (g' := (54, [.ref (mj_NE + 0)], [.ref (mj_NE + 1), .ref (mj_NE + 22), .ref (mj_NE + 22), .ref (mj_NE + 0)], mj_pre xs L [.inr (8, [.ref (mj_NE + 1), .ref (mj_NE + 5), .ref (mj_NE + 16), .null, .null, .null, .null, .int 0]), .inr (4, [.ref (mj_NE + 2), .ref (mj_NE + 3), .ref (mj_NE + 4), .int 0, .int 0, .int 0]), mj_ia 256 (fun _ => 0), mj_ia 256 (fun _ => 0), mj_ia 2048 (fun _ => 0), .inr (6, [.ref (mj_NE + 1), .ref (mj_NE + 6), .ref (mj_NE + 7), .ref (mj_NE + 8), .ref (mj_NE + 9), .ref (mj_NE + 10), .ref (mj_NE + 11), .ref (mj_NE + 12), .ref (mj_NE + 13), .ref (mj_NE + 14), .ref (mj_NE + 15), .int 0]), mj_ia 256 (fun _ => 0), mj_ia 256 (fun _ => 0), mj_ia 256 (fun _ => 0), mj_ia 256 (fun _ => 0), mj_ia 256 (fun _ => 0), mj_ia 256 (fun _ => 0), mj_ia 256 (fun _ => 0), mj_ia 256 (fun _ => 0), .inl (.boolean, 256, .inl (fun _ => 0)), mj_ia 256 (fun _ => 0), .inr (3, [.ref (mj_NE + 1), .ref (mj_NE + 17), .ref (mj_NE + 18), .ref (mj_NE + 20), .int 0]), mj_ia 256 (fun _ => 0), .inr (1, [.ref (mj_NE + 19), .int 0]), mj_ia 256 (fun _ => 0), .inr (2, [.ref (mj_NE + 21)]), mj_ia 512 (fun _ => 0), .inr (0, [.null, .null, .null, .int 0, .int 0, .int 0])], 22, 6176)) ok_W_init 9999 [] rfl (by refine ⟨?_, trivial⟩ <;> decide +kernel))
  have b3 := r_tr a3 (q_I ok_W_init ok_Contours_init in_Contours_init i_Contours rfl rfl rfl rfl ⟨rfl, rfl, rfl⟩)
  have a4 := r_tr b3 (r_to (g' := (69, [.ref (mj_NE + 0)], [.ref (mj_NE + 1), .ref (mj_NE + 26), .ref (mj_NE + 26), .ref (mj_NE + 0)], mj_pre xs L [.inr (8, [.ref (mj_NE + 1), .ref (mj_NE + 5), .ref (mj_NE + 16), .ref (mj_NE + 22), .null, .null, .null, .int 0]), .inr (4, [.ref (mj_NE + 2), .ref (mj_NE + 3), .ref (mj_NE + 4), .int 0, .int 0, .int 0]), mj_ia 256 (fun _ => 0), mj_ia 256 (fun _ => 0), mj_ia 2048 (fun _ => 0), .inr (6, [.ref (mj_NE + 1), .ref (mj_NE + 6), .ref (mj_NE + 7), .ref (mj_NE + 8), .ref (mj_NE + 9), .ref (mj_NE + 10), .ref (mj_NE + 11), .ref (mj_NE + 12), .ref (mj_NE + 13), .ref (mj_NE + 14), .ref (mj_NE + 15), .int 0]), mj_ia 256 (fun _ => 0), mj_ia 256 (fun _ => 0), mj_ia 256 (fun _ => 0), mj_ia 256 (fun _ => 0), mj_ia 256 (fun _ => 0), mj_ia 256 (fun _ => 0), mj_ia 256 (fun _ => 0), mj_ia 256 (fun _ => 0), .inl (.boolean, 256, .inl (fun _ => 0)), mj_ia 256 (fun _ => 0), .inr (3, [.ref (mj_NE + 1), .ref (mj_NE + 17), .ref (mj_NE + 18), .ref (mj_NE + 20), .int 0]), mj_ia 256 (fun _ => 0), .inr (1, [.ref (mj_NE + 19), .int 0]), mj_ia 256 (fun _ => 0), .inr (2, [.ref (mj_NE + 21)]), mj_ia 512 (fun _ => 0), .inr (0, [.ref (mj_NE + 1), .ref (mj_NE + 23), .ref (mj_NE + 24), .int 0, .int 0, .int 0]), mj_ia 512 (fun _ => 0), .inr (2, [.ref (mj_NE + 25)]), mj_ia 512 (fun _ => 0), .inr (5, [.null])], 26, 7202)) ok_W_init 9999 [] rfl (by refine ⟨?_, trivial⟩ <;> decide +kernel))
  have b4 := r_tr a4 (q_I ok_W_init ok_Sight_init in_Sight_init i_Sight rfl rfl rfl rfl ⟨rfl, rfl, rfl⟩)
  have a5 := r_tr b4 (r_to (g' := (84, [.ref (mj_NE + 0)], [.ref (mj_NE + 1), .ref (mj_NE + 27), .ref (mj_NE + 27), .ref (mj_NE + 0)], mj_pre xs L [.inr (8, [.ref (mj_NE + 1), .ref (mj_NE + 5), .ref (mj_NE + 16), .ref (mj_NE + 22), .ref (mj_NE + 26), .null, .null, .int 0]), .inr (4, [.ref (mj_NE + 2), .ref (mj_NE + 3), .ref (mj_NE + 4), .int 0, .int 0, .int 0]), mj_ia 256 (fun _ => 0), mj_ia 256 (fun _ => 0), mj_ia 2048 (fun _ => 0), .inr (6, [.ref (mj_NE + 1), .ref (mj_NE + 6), .ref (mj_NE + 7), .ref (mj_NE + 8), .ref (mj_NE + 9), .ref (mj_NE + 10), .ref (mj_NE + 11), .ref (mj_NE + 12), .ref (mj_NE + 13), .ref (mj_NE + 14), .ref (mj_NE + 15), .int 0]), mj_ia 256 (fun _ => 0), mj_ia 256 (fun _ => 0), mj_ia 256 (fun _ => 0), mj_ia 256 (fun _ => 0), mj_ia 256 (fun _ => 0), mj_ia 256 (fun _ => 0), mj_ia 256 (fun _ => 0), mj_ia 256 (fun _ => 0), .inl (.boolean, 256, .inl (fun _ => 0)), mj_ia 256 (fun _ => 0), .inr (3, [.ref (mj_NE + 1), .ref (mj_NE + 17), .ref (mj_NE + 18), .ref (mj_NE + 20), .int 0]), mj_ia 256 (fun _ => 0), .inr (1, [.ref (mj_NE + 19), .int 0]), mj_ia 256 (fun _ => 0), .inr (2, [.ref (mj_NE + 21)]), mj_ia 512 (fun _ => 0), .inr (0, [.ref (mj_NE + 1), .ref (mj_NE + 23), .ref (mj_NE + 24), .int 0, .int 0, .int 0]), mj_ia 512 (fun _ => 0), .inr (2, [.ref (mj_NE + 25)]), mj_ia 512 (fun _ => 0), .inr (5, [.ref (mj_NE + 1)]), .inr (7, [.null, .null, .null])], 27, 7205)) ok_W_init 9999 [] rfl (by refine ⟨?_, trivial⟩ <;> decide +kernel))
  have b5 := r_tr a5 (q_I ok_W_init ok_Ways_init in_Ways_init i_Ways rfl rfl rfl rfl ⟨rfl, rfl, rfl⟩)
  obtain ⟨f, hf, hC⟩ := c_layOut (xs := xs) (L := L) (A := fun _ _ => 0) (V := V00) (Y := []) (w := 12) (h := 12) ⟨by omega, by omega⟩ ⟨by omega, by omega⟩
  have c1 := r_tr b5 (r_to (g' := (112, [.ref (mj_NE + 0)], [.int (iI 12), .int (iI 12), .ref (mj_NE + 1)], Wd xs L (fun _ _ => 0) V00 [], 31, 7975)) ok_W_init 9999 [] rfl (by refine ⟨?_, trivial⟩ <;> decide +kernel))
  have c2 := r_tr c1 (q_V ok_W_init ok_Land_layOut se_Land_layOut hC rfl rfl rfl rfl rfl ⟨rfl, rfl, rfl⟩)
  exact ⟨f, hf, ct_of ok_W_init rfl c2 rfl rfl rfl rfl rfl⟩
end INIT
end
section
/-! tableswitch; Land: what it tells of its heights -/
theorem r_swI {M : mj_M} {RC RS dd : Nat} (hA : mj_okA M = true) {pc tgt : Nat} {L rest : List Value} {h : mj_H} {cc cs : Nat} {df lo hi : Int} {offs : Array Int} {len a b w : Nat} {v : Value} (hcd : mj_cd M pc = some (.tableswitch df lo hi offs, len, a, b, w, v)) {x off : Int} (hx : -2147483648 ≤ x ∧ x ≤ 2147483647) (h1 : lo ≤ x) (h2 : x ≤ hi) (ho : offs[(x - lo).toNat]? = some off) (ht : (pc : Int) + off = (tgt : Int)) : mj_Rc M RC RS dd (pc, L, .int (iI x) :: rest, h, cc, cs) (tgt, L, rest, h, cc, cs) := by
  intro κ hX k
  have hdg := mj_dec hA hcd
  obtain ⟨p, l, e, R, s, m, args, below, meth, c, Q, σ, D, cT, base⟩ := κ
  obtain ⟨hx', hb, -⟩ := hX
  intro H locs ls hR hl
  exact lv_tableIn hx' hb hdg (by rw [iI_toInt hx.1 hx.2]; omega) (by rw [iI_toInt hx.1 hx.2]; omega) (by rw [iI_toInt hx.1 hx.2]; exact ho) ht (k H locs ls hR hl)
theorem r_swO {M : mj_M} {RC RS dd : Nat} (hA : mj_okA M = true) {pc tgt : Nat} {L rest : List Value} {h : mj_H} {cc cs : Nat} {df lo hi : Int} {offs : Array Int} {len a b w : Nat} {v : Value} (hcd : mj_cd M pc = some (.tableswitch df lo hi offs, len, a, b, w, v)) {x : Int} (hx : -2147483648 ≤ x ∧ x ≤ 2147483647) (h1 : x < lo ∨ hi < x) (ht : (pc : Int) + df = (tgt : Int)) : mj_Rc M RC RS dd (pc, L, .int (iI x) :: rest, h, cc, cs) (tgt, L, rest, h, cc, cs) := by
  intro κ hX k
  have hdg := mj_dec hA hcd
  obtain ⟨p, l, e, R, s, m, args, below, meth, c, Q, σ, D, cT, base⟩ := κ
  obtain ⟨hx', hb, -⟩ := hX
  intro H locs ls hR hl
  exact lv_tableOut hx' hb hdg (by rw [iI_toInt hx.1 hx.2]; exact h1) ht (k H locs ls hR hl)
theorem cl_nat {n : Nat} (h : n ≤ 2147483647) : (iI n).toNatClampNeg = n := by rw [iI_cl (by omega) (by omega), Int.toNat_natCast]
theorem in_nat {n N : Nat} (h : n < N) (hN : N ≤ 2147483647) : vp_in (iI n) N := (iI_in ⟨by omega, by omega⟩).mpr ⟨by omega, by omega⟩
theorem br_ge {V : Int32} {n m : Int} (hV : V = iI m) (hn : -2147483648 ≤ n ∧ n ≤ 2147483647) (hm : -2147483648 ≤ m ∧ m ≤ 2147483647) (h : n < m) : ¬ (V ≤ iI n) := by rw [hV, iI_le hm hn]; omega
theorem br_lt {V : Int32} {n m : Int} (hV : V = iI m) (hn : -2147483648 ≤ n ∧ n ≤ 2147483647) (hm : -2147483648 ≤ m ∧ m ≤ 2147483647) (h : m ≤ n) : V ≤ iI n := by rw [hV, iI_le hm hn]; exact h
/-- the heights: n of them, each as H says -/
def Hts (f : Nat → Int32) (n : Nat) (H : Nat → Int) : Prop := ∀ j : Nat, j < n → f j = iI (H j) ∧ 0 ≤ H j ∧ H j ≤ 999
def mxH (H : Nat → Int) : Nat → Int
  | 0 => 0
  | n + 1 => max (mxH H n) (H n)
def mnH (H : Nat → Int) : Nat → Int
  | 0 => 999
  | n + 1 => min (mnH H n) (H n)
def smH (H : Nat → Int) : Nat → Int
  | 0 => 0
  | n + 1 => smH H n + H n
theorem mxH_bd {H : Nat → Int} {N : Nat} (h : ∀ j, j < N → 0 ≤ H j ∧ H j ≤ 999) : ∀ n, n ≤ N → 0 ≤ mxH H n ∧ mxH H n ≤ 999 := by
  intro n
  induction n with
  | zero => intro _; unfold mxH; omega
  | succ n ih => intro hn; have := ih (by omega); have := h n (by omega); unfold mxH; omega
theorem mnH_bd {H : Nat → Int} {N : Nat} (h : ∀ j, j < N → 0 ≤ H j ∧ H j ≤ 999) : ∀ n, n ≤ N → 0 ≤ mnH H n ∧ mnH H n ≤ 999 := by
  intro n
  induction n with
  | zero => intro _; unfold mnH; omega
  | succ n ih => intro hn; have := ih (by omega); have := h n (by omega); unfold mnH; omega
theorem smH_bd {H : Nat → Int} {N : Nat} (h : ∀ j, j < N → 0 ≤ H j ∧ H j ≤ 999) : ∀ n : Nat, n ≤ N → 0 ≤ smH H n ∧ smH H n ≤ 999 * n := by
  intro n
  induction n with
  | zero => intro _; unfold smH; omega
  | succ n ih => intro hn; have := ih (by omega); have := h n (by omega); unfold smH; omega

section LAND3
variable {xs : Nat → Int32} {L : Nat} {A : Nat → Nat → Int32} {V : Nat → Int32} {Y : mj_H}
variable {n : Nat} {H : Nat → Int}
theorem c_greatest (hV : V 2 = iI n) (hn : n ≤ 256) (hH : Hts (A 0) n H) : mj_Ct m_Land_greatest [.ref (mj_NE + 1)] (Wd xs L A V Y) (some (.int (iI (mxH H n)))) (Wd xs L A V Y) 0 0 1 := by
  have hb := mxH_bd (H := H) (N := n) (fun j hj => (hH j hj).2)
  have lp : ∀ k : Nat, k ≤ n → mj_Rc m_Land_greatest 0 0 1 (4, [.ref (mj_NE + 1), .int 0, .int 0], [], Wd xs L A V Y, 0, 0) (4, [.ref (mj_NE + 1), .int (iI (mxH H k)), .int (iI k)], [], Wd xs L A V Y, 0, 0) := by
    intro k
    induction k with
    | zero => intro _; exact r_rf
    | succ k ih =>
      intro hk
      have b1 := hb k (by omega)
      obtain ⟨e1, h1, h2⟩ := hH k (by omega)
      have hc : (iI k).toNatClampNeg = k := cl_nat (by omega)
      have cnd : ¬ (V 2 ≤ iI k) := br_ge hV ⟨by omega, by omega⟩ ⟨by omega, by omega⟩ (by omega)
      have hin : vp_in (iI k) 256 := in_nat (by omega) (by omega)
      have s1 : mj_Rc m_Land_greatest 0 0 1 (4, [.ref (mj_NE + 1), .int (iI (mxH H k)), .int (iI k)], [], Wd xs L A V Y, 0, 0) (19, [.ref (mj_NE + 1), .int (iI (mxH H k)), .int (iI k)], [.int (A 0 (iI k).toNatClampNeg), .int (iI (mxH H k))], Wd xs L A V Y, 0, 0) := r_to ok_Land_greatest 9999 [false] rfl ⟨cnd, hin, trivial⟩
      rw [hc, e1] at s1
      have s2 := r_tr (ih (by omega)) (r_tr s1 (q_S ok_Land_greatest ok_Math_max st_Math_max (c_max ⟨by omega, by omega⟩ ⟨by omega, by omega⟩) rfl rfl rfl rfl ⟨rfl, rfl, rfl⟩))
      have s3 := r_tr s2 (r_to (g' := (4, [.ref (mj_NE + 1), .int (iI (mxH H (k + 1))), .int (iI k + 1)], [], Wd xs L A V Y, 0, 0)) ok_Land_greatest 4 [] rfl trivial)
      rw [iI_1] at s3
      exact s3
  exact ct_of ok_Land_greatest rfl (r_tr (r_to ok_Land_greatest 4 [] rfl trivial) (r_tr (lp n (Nat.le_refl _)) (r_to ok_Land_greatest 9999 [true] rfl ⟨br_lt hV ⟨by omega, by omega⟩ ⟨by omega, by omega⟩ (by omega), trivial⟩))) rfl rfl rfl rfl rfl
theorem c_lowest (hV : V 2 = iI n) (hn : n ≤ 256) (hH : Hts (A 0) n H) : mj_Ct m_Land_lowest [.ref (mj_NE + 1)] (Wd xs L A V Y) (some (.int (iI (mnH H n)))) (Wd xs L A V Y) 0 0 1 := by
  have hb := mnH_bd (H := H) (N := n) (fun j hj => (hH j hj).2)
  have lp : ∀ k : Nat, k ≤ n → mj_Rc m_Land_lowest 0 0 1 (6, [.ref (mj_NE + 1), .int 999, .int 0], [], Wd xs L A V Y, 0, 0) (6, [.ref (mj_NE + 1), .int (iI (mnH H k)), .int (iI k)], [], Wd xs L A V Y, 0, 0) := by
    intro k
    induction k with
    | zero => intro _; exact r_rf
    | succ k ih =>
      intro hk
      have b1 := hb k (by omega)
      obtain ⟨e1, h1, h2⟩ := hH k (by omega)
      have hc : (iI k).toNatClampNeg = k := cl_nat (by omega)
      have cnd : ¬ (V 2 ≤ iI k) := br_ge hV ⟨by omega, by omega⟩ ⟨by omega, by omega⟩ (by omega)
      have hin : vp_in (iI k) 256 := in_nat (by omega) (by omega)
      have s1 : mj_Rc m_Land_lowest 0 0 1 (6, [.ref (mj_NE + 1), .int (iI (mnH H k)), .int (iI k)], [], Wd xs L A V Y, 0, 0) (21, [.ref (mj_NE + 1), .int (iI (mnH H k)), .int (iI k)], [.int (A 0 (iI k).toNatClampNeg), .int (iI (mnH H k))], Wd xs L A V Y, 0, 0) := r_to ok_Land_lowest 9999 [false] rfl ⟨cnd, hin, trivial⟩
      rw [hc, e1] at s1
      have s2 := r_tr (ih (by omega)) (r_tr s1 (q_S ok_Land_lowest ok_Math_min st_Math_min (c_min ⟨by omega, by omega⟩ ⟨by omega, by omega⟩) rfl rfl rfl rfl ⟨rfl, rfl, rfl⟩))
      have s3 := r_tr s2 (r_to (g' := (6, [.ref (mj_NE + 1), .int (iI (mnH H (k + 1))), .int (iI k + 1)], [], Wd xs L A V Y, 0, 0)) ok_Land_lowest 6 [] rfl trivial)
      rw [iI_1] at s3
      exact s3
  exact ct_of ok_Land_lowest rfl (r_tr (r_to ok_Land_lowest 6 [] rfl trivial) (r_tr (lp n (Nat.le_refl _)) (r_to ok_Land_lowest 9999 [true] rfl ⟨br_lt hV ⟨by omega, by omega⟩ ⟨by omega, by omega⟩ (by omega), trivial⟩))) rfl rfl rfl rfl rfl
theorem c_sum (hV : V 2 = iI n) (hn : n ≤ 256) (hH : Hts (A 0) n H) : mj_Ct m_Land_sum [.ref (mj_NE + 1)] (Wd xs L A V Y) (some (.int (iI (smH H n)))) (Wd xs L A V Y) 0 0 1 := by
  have hb := smH_bd (H := H) (N := n) (fun j hj => (hH j hj).2)
  have lp : ∀ k : Nat, k ≤ n → mj_Rc m_Land_sum 0 0 1 (4, [.ref (mj_NE + 1), .int 0, .int 0], [], Wd xs L A V Y, 0, 0) (4, [.ref (mj_NE + 1), .int (iI (smH H k)), .int (iI k)], [], Wd xs L A V Y, 0, 0) := by
    intro k
    induction k with
    | zero => intro _; exact r_rf
    | succ k ih =>
      intro hk
      have b1 := hb k (by omega)
      obtain ⟨e1, h1, h2⟩ := hH k (by omega)
      have hc : (iI k).toNatClampNeg = k := cl_nat (by omega)
      have cnd : ¬ (V 2 ≤ iI k) := br_ge hV ⟨by omega, by omega⟩ ⟨by omega, by omega⟩ (by omega)
      have hin : vp_in (iI k) 256 := in_nat (by omega) (by omega)
      have s1 : mj_Rc m_Land_sum 0 0 1 (4, [.ref (mj_NE + 1), .int (iI (smH H k)), .int (iI k)], [], Wd xs L A V Y, 0, 0) (4, [.ref (mj_NE + 1), .int (iI (smH H k) + A 0 (iI k).toNatClampNeg), .int (iI k + 1)], [], Wd xs L A V Y, 0, 0) := r_to ok_Land_sum 4 [false] rfl ⟨cnd, hin, trivial⟩
      rw [hc, e1, iI_1, iI_add] at s1
      exact r_tr (ih (by omega)) s1
  exact ct_of ok_Land_sum rfl (r_tr (r_to ok_Land_sum 4 [] rfl trivial) (r_tr (lp n (Nat.le_refl _)) (r_to ok_Land_sum 9999 [true] rfl ⟨br_lt hV ⟨by omega, by omega⟩ ⟨by omega, by omega⟩ (by omega), trivial⟩))) rfl rfl rfl rfl rfl
/-- what told answers -/
def toldH (w h : Int) (H : Nat → Int) (n : Nat) (k : Int) : Int := if k = 0 then w else if k = 1 then h else if k = 2 then mnH H n else if k = 3 then mxH H n else smH H n
theorem c_Ltold {w h k : Int} (h0 : V 0 = iI w) (h1 : V 1 = iI h) (hV : V 2 = iI n) (hn : n ≤ 256) (hH : Hts (A 0) n H) (hk : 0 ≤ k ∧ k ≤ 4) : mj_Ct m_Land_told [.ref (mj_NE + 1), .int (iI k)] (Wd xs L A V Y) (some (.int (iI (toldH w h H n k)))) (Wd xs L A V Y) 0 0 2 := by
  have st := r_to (RC := 0) (RS := 0) (dd := 2) (g := (0, [.ref (mj_NE + 1), .int (iI k)], [], Wd xs L A V Y, 0, 0)) (g' := (1, [.ref (mj_NE + 1), .int (iI k)], [.int (iI k)], Wd xs L A V Y, 0, 0)) ok_Land_told 9999 [] rfl trivial
  rcases (show k = 0 ∨ k = 1 ∨ k = 2 ∨ k = 3 ∨ k = 4 by omega) with rfl | rfl | rfl | rfl | rfl
  · have e : iI (toldH w h H n 0) = V 0 := h0.symm
    rw [e]
    exact ct_of ok_Land_told rfl (r_tr (r_tr st (r_swI (tgt := 32) ok_Land_told rfl ⟨by omega, by omega⟩ (by omega) (by omega) rfl rfl)) (r_to ok_Land_told 9999 [] rfl trivial)) rfl rfl rfl rfl rfl
  · have e : iI (toldH w h H n 1) = V 1 := h1.symm
    rw [e]
    exact ct_of ok_Land_told rfl (r_tr (r_tr st (r_swI (tgt := 37) ok_Land_told rfl ⟨by omega, by omega⟩ (by omega) (by omega) rfl rfl)) (r_to ok_Land_told 9999 [] rfl trivial)) rfl rfl rfl rfl rfl
  · exact ct_of ok_Land_told rfl (r_tr (r_tr (r_tr st (r_swI (tgt := 42) ok_Land_told rfl ⟨by omega, by omega⟩ (by omega) (by omega) rfl rfl)) (r_to (g' := (43, [.ref (mj_NE + 1), .int (iI 2)], [.ref (mj_NE + 1)], Wd xs L A V Y, 0, 0)) ok_Land_told 9999 [] rfl trivial)) (q_V ok_Land_told ok_Land_lowest se_Land_lowest (c_lowest hV hn hH) rfl rfl rfl rfl rfl ⟨rfl, rfl, rfl⟩)) rfl rfl rfl rfl rfl
  · exact ct_of ok_Land_told rfl (r_tr (r_tr (r_tr st (r_swI (tgt := 47) ok_Land_told rfl ⟨by omega, by omega⟩ (by omega) (by omega) rfl rfl)) (r_to (g' := (48, [.ref (mj_NE + 1), .int (iI 3)], [.ref (mj_NE + 1)], Wd xs L A V Y, 0, 0)) ok_Land_told 9999 [] rfl trivial)) (q_V ok_Land_told ok_Land_greatest se_Land_greatest (c_greatest hV hn hH) rfl rfl rfl rfl rfl ⟨rfl, rfl, rfl⟩)) rfl rfl rfl rfl rfl
  · exact ct_of ok_Land_told rfl (r_tr (r_tr (r_tr st (r_swO (tgt := 52) ok_Land_told rfl ⟨by omega, by omega⟩ (by omega) rfl)) (r_to (g' := (53, [.ref (mj_NE + 1), .int (iI 4)], [.ref (mj_NE + 1)], Wd xs L A V Y, 0, 0)) ok_Land_told 9999 [] rfl trivial)) (q_V ok_Land_told ok_Land_sum se_Land_sum (c_sum hV hn hH) rfl rfl rfl rfl rfl ⟨rfl, rfl, rfl⟩)) rfl rfl rfl rfl rfl
/-- a HEIGHT as it is taken -/
def clH (z : Int) : Int := if z < 0 then 0 else if 999 < z then 999 else z
theorem c_exchange {i z : Int} (hi : 0 ≤ i ∧ i < 256) (hz : -2147483648 ≤ z ∧ z ≤ 2147483647) : mj_Ct m_Land_exchange [.ref (mj_NE + 1), .int (iI i), .int (iI z)] (Wd xs L A V Y) (some (.int (A 0 i.toNat))) (Wd xs L (wA A 0 (upd (A 0) i.toNat (iI (clH z)))) V Y) 0 0 0 := by
  have hc : (iI i).toNatClampNeg = i.toNat := iI_cl (by omega) (by omega)
  have hin : vp_in (iI i) 256 := (iI_in ⟨by omega, by omega⟩).mpr ⟨by omega, by omega⟩
  rw [← hc]
  by_cases h1 : z < 0
  · have e : clH z = 0 := by unfold clH; rw [if_pos h1]
    rw [e]
    exact ct_of ok_Land_exchange rfl (r_to ok_Land_exchange 9999 [false] rfl ⟨hin, by
      show ¬ (iI 0 ≤ iI z)
      rw [iI_le ⟨by omega, by omega⟩ hz]
      omega, hin, trivial⟩) rfl rfl rfl rfl rfl
  have c1 : iI 0 ≤ iI z := by rw [iI_le ⟨by omega, by omega⟩ hz]; omega
  by_cases h2 : 999 < z
  · have e : clH z = 999 := by unfold clH; rw [if_neg h1, if_pos h2]
    rw [e]
    exact ct_of ok_Land_exchange rfl (r_to ok_Land_exchange 9999 [true, false] rfl ⟨hin, c1, by
      show ¬ (iI z ≤ iI 999)
      rw [iI_le hz ⟨by omega, by omega⟩]
      omega, hin, trivial⟩) rfl rfl rfl rfl rfl
  · have e : clH z = z := by unfold clH; rw [if_neg h1, if_neg h2]
    rw [e]
    exact ct_of ok_Land_exchange rfl (r_to ok_Land_exchange 9999 [true, true] rfl ⟨hin, c1, by
      show iI z ≤ iI 999
      rw [iI_le hz ⟨by omega, by omega⟩]
      omega, hin, trivial⟩) rfl rfl rfl rfl rfl
theorem c_difference {i j b c : Int} (hi : 0 ≤ i ∧ i < 256) (hj : 0 ≤ j ∧ j < 256) (e1 : A 0 i.toNat = iI b) (e2 : A 0 j.toNat = iI c) (hb : 0 ≤ b ∧ b ≤ 999) (hc : 0 ≤ c ∧ c ≤ 999) : mj_Ct m_Land_difference [.ref (mj_NE + 1), .int (iI i), .int (iI j)] (Wd xs L A V Y) (some (.int (iI ((b - c).natAbs : Int)))) (Wd xs L A V Y) 0 0 1 := by
  have ci : (iI i).toNatClampNeg = i.toNat := iI_cl (by omega) (by omega)
  have cj : (iI j).toNatClampNeg = j.toNat := iI_cl (by omega) (by omega)
  have hin1 : vp_in (iI i) 256 := (iI_in ⟨by omega, by omega⟩).mpr ⟨by omega, by omega⟩
  have hin2 : vp_in (iI j) 256 := (iI_in ⟨by omega, by omega⟩).mpr ⟨by omega, by omega⟩
  have s1 : mj_Rc m_Land_difference 0 0 1 (0, [.ref (mj_NE + 1), .int (iI i), .int (iI j)], [], Wd xs L A V Y, 0, 0) (13, [.ref (mj_NE + 1), .int (iI i), .int (iI j)], [.int (A 0 (iI i).toNatClampNeg - A 0 (iI j).toNatClampNeg)], Wd xs L A V Y, 0, 0) := r_to ok_Land_difference 9999 [] rfl ⟨hin1, hin2, trivial⟩
  rw [ci, cj, e1, e2, iI_sub] at s1
  exact ct_of ok_Land_difference rfl (r_tr s1 (q_S ok_Land_difference ok_Math_abs st_Math_abs (c_abs ⟨by omega, by omega⟩) rfl rfl rfl rfl ⟨rfl, rfl, rfl⟩)) rfl rfl rfl rfl rfl
/-- a FIELD at the EDGE -/
def edge (w h : Int) (i : Nat) : Prop := (i : Int) % w = 0 ∨ (i : Int) % w = w - 1 ∨ (i : Int) / w = 0 ∨ (i : Int) / w = h - 1
theorem i_xy {w h : Int} {i : Nat} (hw : 2 ≤ w ∧ w ≤ 16) (hh : 2 ≤ h ∧ h ≤ 16) (hi : (i : Int) < w * h) : 0 ≤ (i : Int) % w ∧ (i : Int) % w < w ∧ 0 ≤ (i : Int) / w ∧ (i : Int) / w < h ∧ (i : Int) / w * w + (i : Int) % w = i ∧ (i : Int) < 256 := by
  have h1 := Int.emod_nonneg (i : Int) (show w ≠ 0 by omega)
  have h2 := Int.emod_lt_of_pos (i : Int) (show 0 < w by omega)
  have h3 := Int.mul_ediv_add_emod (i : Int) w
  have h4 : 0 ≤ (i : Int) / w := Int.ediv_nonneg (by omega) (by omega)
  have h5 : (i : Int) / w < h := Int.ediv_lt_of_lt_mul (by omega) (by rw [Int.mul_comm]; exact hi)
  have h6 : w * h ≤ 16 * h := Int.mul_le_mul_of_nonneg_right hw.2 (by omega)
  rw [Int.mul_comm] at h3
  omega
end LAND3
end
section
/-! Land: the EDGE, the FIELDS between two, tilting -/
def bI (b : Bool) : Int32 := match b with | true => 1 | false => 0
theorem bI_nar (b : Bool) : narrow .boolean (.int (bI b)) = .int (bI b) := by cases b <;> rfl
def edgeB (w h : Int) (i : Nat) : Bool := (((false || decide (nbi w h i 0 < 0)) || decide (nbi w h i 2 < 0)) || decide (nbi w h i 4 < 0)) || decide (nbi w h i 6 < 0)
theorem nbi_bd {w h : Int} (hw : 2 ≤ w ∧ w ≤ 16) (hh : 2 ≤ h ∧ h ≤ 16) (i d : Nat) : -1 ≤ nbi w h i d ∧ nbi w h i d < w * h := nb_bd hw hh d
theorem wh_bd {w h : Int} (hw : 2 ≤ w ∧ w ≤ 16) (hh : 2 ≤ h ∧ h ≤ 16) : 4 ≤ w * h ∧ w * h ≤ 256 := by
  have h4 : w * h ≤ 16 * h := Int.mul_le_mul_of_nonneg_right hw.2 (by omega)
  have h5 : 2 * h ≤ w * h := Int.mul_le_mul_of_nonneg_right hw.1 (by omega)
  omega
/-- the first k places of f are g's -/
def pw (g f : Nat → Int32) (k : Nat) : Nat → Int32 := fun j => if j < k then g j else f j
theorem pw_0 {g f : Nat → Int32} : pw g f 0 = f := by
  funext j
  simp [pw]
theorem pw_s {g f : Nat → Int32} {k : Nat} {x : Int32} (h : x = g k) : upd (pw g f k) k x = pw g f (k + 1) := by
  funext j
  simp only [upd, pw]
  by_cases h1 : j = k
  · subst h1; simp [h]
  · by_cases h2 : j < k
    · rw [if_neg h1, if_pos h2, if_pos (by omega)]
    · rw [if_neg h1, if_neg h2, if_neg (by omega)]
theorem pw_lt {g f : Nat → Int32} {k j : Nat} (h : j < k) : pw g f k j = g j := if_pos h
theorem pw_ge {g f : Nat → Int32} {k j : Nat} (h : ¬ j < k) : pw g f k j = f j := if_neg h
def btw (p q k n : Int) : Int := if n < 1 then p else p + (2 * k * (q - p) + n) / (2 * n)
theorem btw_in {p q k n : Int} (h0 : 0 ≤ k) (h1 : k ≤ n) (h2 : q - p ≤ n) (h3 : p - q ≤ n) : (p ≤ q → p ≤ btw p q k n ∧ btw p q k n ≤ q) ∧ (q ≤ p → q ≤ btw p q k n ∧ btw p q k n ≤ p) := by
  unfold btw
  by_cases hn : n < 1
  · rw [if_pos hn]
    omega
  · rw [if_neg hn]
    generalize hD : q - p = D at *
    have e1 : 2 * k * D = 2 * (k * D) := Int.mul_assoc _ _ _
    rw [e1]
    refine ⟨fun hpq => ?_, fun hpq => ?_⟩
    · have hD0 : 0 ≤ D := by omega
      have k1 : 0 ≤ k * D := Int.mul_nonneg h0 hD0
      have k2 : k * D ≤ n * D := Int.mul_le_mul_of_nonneg_right h1 hD0
      have q1 : 0 ≤ (2 * (k * D) + n) / (2 * n) := Int.ediv_nonneg (by omega) (by omega)
      have q2 : (2 * (k * D) + n) / (2 * n) < D + 1 := Int.ediv_lt_of_lt_mul (by omega) (by
        have e2 : (D + 1) * (2 * n) = 2 * (n * D) + 2 * n := by rw [Int.add_mul, Int.one_mul, Int.mul_left_comm D 2 n, Int.mul_comm D n]
        omega)
      omega
    · have hD0 : D ≤ 0 := by omega
      have k1 : k * D ≤ 0 := Int.mul_nonpos_of_nonneg_of_nonpos h0 hD0
      have k2 : n * D ≤ k * D := Int.mul_le_mul_of_nonpos_right h1 hD0
      have q1 : D ≤ (2 * (k * D) + n) / (2 * n) := Int.le_ediv_of_mul_le (by omega) (by
        have e2 : D * (2 * n) = 2 * (n * D) := by rw [Int.mul_left_comm D 2 n, Int.mul_comm D n]
        omega)
      have q2 : (2 * (k * D) + n) / (2 * n) < 1 := Int.ediv_lt_of_lt_mul (by omega) (by omega)
      omega

section LAND4
variable {xs : Nat → Int32} {L : Nat} {A : Nat → Nat → Int32} {V : Nat → Int32} {Y : mj_H}
variable {w h : Int} {n : Nat} {H : Nat → Int}
theorem c_nbr {i d : Nat} {N : Nat} (hN : nbOK w h (A 2) N) (hi : i < N) (hN2 : N ≤ 256) (hd : d < 8) : mj_Ct m_Land_neighbour [.ref (mj_NE + 1), .int (iI i), .int (iI d)] (Wd xs L A V Y) (some (.int (iI (nbi w h i d)))) (Wd xs L A V Y) 0 0 0 := by
  have e : iI (i : Int) * 8 + iI d = iI ((i * 8 + d : Nat) : Int) := by
    show iI i * iI 8 + iI d = _
    rw [iI_mul, iI_add]
    rfl
  have h1 := c_neighbour (xs := xs) (L := L) (A := A) (V := V) (Y := Y) (x := iI i) (d := iI d) (by rw [e]; exact in_nat (by omega) (by omega))
  rw [e, cl_nat (by omega), hN i hi d hd] at h1
  exact h1
theorem c_atEdge {i N : Nat} (hw : 2 ≤ w ∧ w ≤ 16) (hh : 2 ≤ h ∧ h ≤ 16) (hN : nbOK w h (A 2) N) (hi : i < N) (hN2 : N ≤ 256) : mj_Ct m_Land_atEdge [.ref (mj_NE + 1), .int (iI i)] (Wd xs L A V Y) (some (.int (bI (edgeB w h i)))) (Wd xs L A V Y) 0 0 1 := by
  have wh := wh_bd hw hh
  have stp : ∀ (dI : Int) (d : Nat), dI = d → d < 8 → ∀ b : Bool, mj_Rc m_Land_atEdge 0 0 1 (4, [.ref (mj_NE + 1), .int (iI i), .int (bI b), .int (iI dI)], [], Wd xs L A V Y, 0, 0) (4, [.ref (mj_NE + 1), .int (iI i), .int (bI (b || decide (nbi w h i d < 0))), .int (iI (dI + 2))], [], Wd xs L A V Y, 0, 0) := by
    intro dI d hdI hd b
    have bd := nbi_bd hw hh i d
    have cnd : ¬ (iI 8 ≤ iI dI) := by rw [iI_le ⟨by omega, by omega⟩ ⟨by omega, by omega⟩]; omega
    rw [← iI_add]
    cases b with
    | true => exact r_to ok_Land_atEdge 4 [false, true] rfl ⟨cnd, by show ¬ ((1 : Int32) = 0); decide, trivial⟩
    | false =>
      have s1 : mj_Rc m_Land_atEdge 0 0 1 (4, [.ref (mj_NE + 1), .int (iI i), .int (bI false), .int (iI dI)], [], Wd xs L A V Y, 0, 0) (17, [.ref (mj_NE + 1), .int (iI i), .int (bI false), .int (iI dI)], [.int (iI dI), .int (iI i), .ref (mj_NE + 1)], Wd xs L A V Y, 0, 0) := r_to ok_Land_atEdge 9999 [false, false] rfl ⟨cnd, by show ¬ ¬ ((0 : Int32) = 0); decide, trivial⟩
      rw [hdI] at s1 ⊢
      have s2 := r_tr s1 (q_V ok_Land_atEdge ok_Land_neighbour se_Land_neighbour (c_nbr hN hi hN2 hd) rfl rfl rfl rfl rfl ⟨rfl, rfl, rfl⟩)
      by_cases hn : nbi w h i d < 0
      · rw [decide_eq_true hn]
        exact r_tr s2 (r_to ok_Land_atEdge 4 [false] rfl ⟨by
          show ¬ (iI 0 ≤ iI (nbi w h i d))
          rw [iI_le ⟨by omega, by omega⟩ ⟨by omega, by omega⟩]
          omega, trivial⟩)
      · rw [decide_eq_false hn]
        exact r_tr s2 (r_to ok_Land_atEdge 4 [true] rfl ⟨by
          show iI 0 ≤ iI (nbi w h i d)
          rw [iI_le ⟨by omega, by omega⟩ ⟨by omega, by omega⟩]
          omega, trivial⟩)
  have s0 := r_to (RC := 0) (RS := 0) (dd := 1) (g := (0, [.ref (mj_NE + 1), .int (iI i), mj_u, mj_u], [], Wd xs L A V Y, 0, 0)) (g' := (4, [.ref (mj_NE + 1), .int (iI i), .int (bI false), .int (iI 0)], [], Wd xs L A V Y, 0, 0)) ok_Land_atEdge 4 [] rfl trivial
  have s1 := r_tr (r_tr (r_tr (r_tr s0 (stp 0 0 rfl (by omega) _)) (stp (0 + 2) 2 rfl (by omega) _)) (stp (0 + 2 + 2) 4 rfl (by omega) _)) (stp (0 + 2 + 2 + 2) 6 rfl (by omega) _)
  exact ct_of ok_Land_atEdge rfl (r_tr s1 (r_to ok_Land_atEdge 9999 [true] rfl ⟨by show iI 8 ≤ iI 8; exact Int32.le_refl _, trivial⟩)) rfl rfl ⟨rfl, bI_nar _⟩ rfl rfl
theorem c_slanted {d : Nat} (hd : d < 8) : mj_Ct m_Land_slanted [.int (iI d)] (Wd xs L A V Y) (some (.int (bI (decide (d % 2 = 1))))) (Wd xs L A V Y) 0 0 0 := by
  have e : iI (d : Int) - iI d / iI 2 * iI 2 = iI ((d % 2 : Nat) : Int) := by
    rw [iI_rem ⟨by omega, by omega⟩ ⟨by omega, by omega⟩, Int.tmod_eq_emod_of_nonneg (by omega)]
    rfl
  by_cases h1 : d % 2 = 1
  · rw [decide_eq_true h1]
    exact ct_of ok_Land_slanted rfl (r_to ok_Land_slanted 9999 [false] rfl ⟨by show ¬ (iI 2 = iI 0); decide +kernel, by
      show ¬ ¬ (iI d - iI d / iI 2 * iI 2 = 1)
      rw [e, h1]
      exact fun q => q rfl, trivial⟩) rfl rfl ⟨rfl, rfl⟩ rfl rfl
  · rw [decide_eq_false h1]
    have h0 : d % 2 = 0 := by omega
    exact ct_of ok_Land_slanted rfl (r_to ok_Land_slanted 9999 [true] rfl ⟨by show ¬ (iI 2 = iI 0); decide +kernel, by
      show ¬ (iI d - iI d / iI 2 * iI 2 = 1)
      rw [e, h0]
      decide +kernel, trivial⟩) rfl rfl ⟨rfl, rfl⟩ rfl rfl
theorem c_stepsBetween {x y p q : Int} {hh : mj_H} (h1 : -1000 ≤ x ∧ x ≤ 1000 ∧ -1000 ≤ y ∧ y ≤ 1000 ∧ -1000 ≤ p ∧ p ≤ 1000 ∧ -1000 ≤ q ∧ q ≤ 1000) : mj_Ct m_Land_stepsBetween [.int (iI x), .int (iI y), .int (iI p), .int (iI q)] hh (some (.int (iI (max ((p - x).natAbs : Int) ((q - y).natAbs : Int))))) hh 0 0 1 := by
  have s1 : mj_Rc m_Land_stepsBetween 0 0 1 (0, [.int (iI x), .int (iI y), .int (iI p), .int (iI q)], [], hh, 0, 0) (3, [.int (iI x), .int (iI y), .int (iI p), .int (iI q)], [.int (iI p - iI x)], hh, 0, 0) := r_to ok_Land_stepsBetween 9999 [] rfl trivial
  rw [iI_sub] at s1
  have s2 := r_tr s1 (q_S ok_Land_stepsBetween ok_Math_abs st_Math_abs (c_abs (a := p - x) ⟨by omega, by omega⟩) rfl rfl rfl rfl ⟨rfl, rfl, rfl⟩)
  have s3 : mj_Rc m_Land_stepsBetween 0 0 1 (6, [.int (iI x), .int (iI y), .int (iI p), .int (iI q)], [.int (iI ((p - x).natAbs : Int))], hh, 0, 0) (9, [.int (iI x), .int (iI y), .int (iI p), .int (iI q)], [.int (iI q - iI y), .int (iI ((p - x).natAbs : Int))], hh, 0, 0) := r_to ok_Land_stepsBetween 9999 [] rfl trivial
  rw [iI_sub] at s3
  have s4 := r_tr (r_tr s2 s3) (q_S ok_Land_stepsBetween ok_Math_abs st_Math_abs (c_abs (a := q - y) ⟨by omega, by omega⟩) rfl rfl rfl rfl ⟨rfl, rfl, rfl⟩)
  have s5 := r_tr s4 (q_S ok_Land_stepsBetween ok_Math_max st_Math_max (c_max (a := ((p - x).natAbs : Int)) (b := ((q - y).natAbs : Int)) ⟨by omega, by omega⟩ ⟨by omega, by omega⟩) rfl rfl rfl rfl ⟨rfl, rfl, rfl⟩)
  exact ct_of ok_Land_stepsBetween rfl s5 rfl rfl rfl rfl rfl
theorem c_between {p q k n : Int} {hh : mj_H} (h1 : 0 ≤ p ∧ p ≤ 100 ∧ 0 ≤ q ∧ q ≤ 100 ∧ 0 ≤ k ∧ k ≤ 100 ∧ 0 ≤ n ∧ n ≤ 100) : mj_Ct m_Land_between [.int (iI p), .int (iI q), .int (iI k), .int (iI n)] hh (some (.int (iI (btw p q k n)))) hh 0 0 1 := by
  unfold btw
  by_cases hn : n < 1
  · rw [if_pos hn]
    exact ct_of ok_Land_between rfl (r_to ok_Land_between 9999 [false] rfl ⟨by
      show ¬ (iI 1 ≤ iI n)
      rw [iI_le ⟨by omega, by omega⟩ ⟨by omega, by omega⟩]
      omega, trivial⟩) rfl rfl rfl rfl rfl
  · rw [if_neg hn, ← iI_add]
    have bd : -10000 ≤ k * (q - p) ∧ k * (q - p) ≤ 10000 := by
      have k1 : k * (q - p) ≤ k * 100 := Int.mul_le_mul_of_nonneg_left (by omega) (by omega)
      have k2 : k * (-100) ≤ k * (q - p) := Int.mul_le_mul_of_nonneg_left (by omega) (by omega)
      omega
    have e0 : 2 * k * (q - p) = 2 * (k * (q - p)) := Int.mul_assoc _ _ _
    have s1 : mj_Rc m_Land_between 0 0 1 (0, [.int (iI p), .int (iI q), .int (iI k), .int (iI n)], [], hh, 0, 0) (22, [.int (iI p), .int (iI q), .int (iI k), .int (iI n)], [.int (iI 2 * iI n), .int (iI 2 * iI k * (iI q - iI p) + iI n), .int (iI p)], hh, 0, 0) := r_to ok_Land_between 9999 [true] rfl ⟨by
      show iI 1 ≤ iI n
      rw [iI_le ⟨by omega, by omega⟩ ⟨by omega, by omega⟩]
      omega, trivial⟩
    rw [iI_sub, iI_mul, iI_mul, iI_mul, iI_add] at s1
    have s2 := r_tr s1 (q_S ok_Land_between ok_Math_floorDiv st_Math_floorDiv (c_floorDiv (a := 2 * k * (q - p) + n) (b := 2 * n) ⟨by omega, by omega⟩ ⟨by omega, by omega⟩) rfl rfl rfl rfl ⟨rfl, rfl, rfl⟩)
    exact ct_of ok_Land_between rfl (r_tr s2 (r_to ok_Land_between 9999 [] rfl trivial)) rfl rfl rfl rfl rfl
end LAND4
end
section
/-! Land: tilting, hills -/
/-- what is added for roughness -/
def bump (x y : Int) : Int := (x * 7 + y * 13 + x * y * 5) % 17
theorem bump_bd (x y : Int) : 0 ≤ bump x y ∧ bump x y ≤ 16 := by
  unfold bump
  omega
def slH (w p q r : Int) (H : Nat → Int) (j : Nat) : Int := clH (H j + p * ((j : Int) % w) + q * ((j : Int) / w) + bump ((j : Int) % w) ((j : Int) / w) * r)
theorem clH_bd (z : Int) : 0 ≤ clH z ∧ clH z ≤ 999 := by
  unfold clH
  split
  · omega
  · split <;> omega
theorem mul_bd {p q P Q : Int} (h1 : -P ≤ p ∧ p ≤ P) (h2 : 0 ≤ q ∧ q ≤ Q) : -(P * Q) ≤ p * q ∧ p * q ≤ P * Q := by
  have a1 : p * q ≤ P * q := Int.mul_le_mul_of_nonneg_right h1.2 h2.1
  have a2 : -P * q ≤ p * q := Int.mul_le_mul_of_nonneg_right h1.1 h2.1
  have a3 : P * q ≤ P * Q := Int.mul_le_mul_of_nonneg_left h2.2 (by omega)
  rw [Int.neg_mul] at a2
  omega
section LAND5
variable {xs : Nat → Int32} {L : Nat} {A : Nat → Nat → Int32} {V : Nat → Int32} {Y : mj_H}
variable {w h : Int} {H : Nat → Int}
set_option maxHeartbeats 1000000 in
theorem c_slope {p q r : Int} (h0 : V 0 = iI w) (h1 : V 1 = iI h) (hw : 2 ≤ w ∧ w ≤ 16) (hh : 2 ≤ h ∧ h ≤ 16) (hH : Hts (A 0) (w * h).toNat H) (hp0 : -100 ≤ p ∧ p ≤ 100) (hq0 : -100 ≤ q ∧ q ≤ 100) (hr0 : -100 ≤ r ∧ r ≤ 100) : mj_Ct m_Land_slope [.ref (mj_NE + 1), .int (iI p), .int (iI q), .int (iI r)] (Wd xs L A V Y) none (Wd xs L (wA A 0 (pw (fun j => iI (slH w p q r H j)) (A 0) (w * h).toNat)) V Y) 0 0 1 := by
  have wh := wh_bd hw hh
  have row : ∀ (g0 : mj_S) (y : Int) (k0 : Nat), 0 ≤ y ∧ y < h → (k0 : Int) = y * w → (∃ (A1 : Nat → Nat → Int32) (u6 u7 : Value), (A1 = wA A 0 (pw (fun j => iI (slH w p q r H j)) (A 0) k0) ∧ True) ∧ mj_Rc m_Land_slope 0 0 1 g0 (15, [.ref (mj_NE + 1), .int (iI p), .int (iI q), .int (iI r), .int (iI y), .int 0, u6, u7], [], Wd xs L A1 V Y, 0, 0)) → ∀ n : Nat, (n : Int) ≤ w → ∃ (A1 : Nat → Nat → Int32) (u6 u7 : Value), (A1 = wA A 0 (pw (fun j => iI (slH w p q r H j)) (A 0) (k0 + n)) ∧ True) ∧ mj_Rc m_Land_slope 0 0 1 g0 (15, [.ref (mj_NE + 1), .int (iI p), .int (iI q), .int (iI r), .int (iI y), .int (iI n), u6, u7], [], Wd xs L A1 V Y, 0, 0) := by
    intro g0 y k0 hy hk0 hs n
    induction n with
    | zero => intro _; exact hs
    | succ n ih =>
      intro hn
      obtain ⟨A1, u6, u7, hp, hr⟩ := ih (by omega)
      have hx : 0 ≤ (n : Int) ∧ (n : Int) < w := ⟨by omega, by omega⟩
      have hb := num_bd hw hh hx hy
      have hk : ((k0 + n : Nat) : Int) = y * w + n := by omega
      have hxy := num_xy (w := w) (y := y) (by omega) hx
      have cnd : ¬ (V 0 ≤ iI n) := br_ge h0 ⟨by omega, by omega⟩ ⟨by omega, by omega⟩ (by omega)
      obtain ⟨rfl, -⟩ := hp
      obtain ⟨e0, b1, b2⟩ := hH (k0 + n) (by omega)
      have bw := bump_bd n y
      have m1 := mul_bd (p := p) (q := n) (P := 100) (Q := 16) hp0 ⟨by omega, by omega⟩
      have m2 := mul_bd (p := q) (q := y) (P := 100) (Q := 16) hq0 ⟨by omega, by omega⟩
      have m3 := mul_bd (p := r) (q := bump n y) (P := 100) (Q := 16) hr0 ⟨by omega, by omega⟩
      rw [Int.mul_comm r] at m3
      have m4 := mul_bd (p := (n : Int)) (q := y) (P := 16) (Q := 16) ⟨by omega, by omega⟩ ⟨by omega, by omega⟩
      have m5 : 0 ≤ (n : Int) * y := Int.mul_nonneg (by omega) hy.1
      have s1 := r_tr hr (r_to (g' := (29, [.ref (mj_NE + 1), .int (iI p), .int (iI q), .int (iI r), .int (iI y), .int (iI n), u6, u7], [.int (iI y), .int (iI n), .ref (mj_NE + 1)], Wd xs L (wA A 0 (pw (fun j => iI (slH w p q r H j)) (A 0) (k0 + n))) V Y, 0, 0)) ok_Land_slope 9999 [false] rfl ⟨cnd, trivial⟩)
      have s2 := r_tr s1 (q_V ok_Land_slope ok_Land_numberOf se_Land_numberOf (c_num h0) rfl rfl rfl rfl rfl ⟨rfl, rfl, rfl⟩)
      rw [← hk] at s2
      have hc : (iI ((k0 + n : Nat) : Int)).toNatClampNeg = k0 + n := cl_nat (by omega)
      have hin : vp_in (iI ((k0 + n : Nat) : Int)) 256 := in_nat (by omega) (by omega)
      have eb : iI n * iI 7 + iI y * iI 13 + iI n * iI y * iI 5 - (iI n * iI 7 + iI y * iI 13 + iI n * iI y * iI 5) / iI 17 * iI 17 = iI (bump n y) := by
        rw [iI_mul, iI_mul, iI_mul, iI_mul, iI_add, iI_add, iI_rem ⟨by omega, by omega⟩ ⟨by omega, by omega⟩, Int.tmod_eq_emod_of_nonneg (by omega)]
        rfl
      have s3 : mj_Rc m_Land_slope 0 0 1 (32, [.ref (mj_NE + 1), .int (iI p), .int (iI q), .int (iI r), .int (iI y), .int (iI n), u6, u7], [.int (iI ((k0 + n : Nat) : Int))], Wd xs L (wA A 0 (pw (fun j => iI (slH w p q r H j)) (A 0) (k0 + n))) V Y, 0, 0) (83, [.ref (mj_NE + 1), .int (iI p), .int (iI q), .int (iI r), .int (iI y), .int (iI n), .int (iI ((k0 + n : Nat) : Int)), .int (iI n * iI 7 + iI y * iI 13 + iI n * iI y * iI 5 - (iI n * iI 7 + iI y * iI 13 + iI n * iI y * iI 5) / iI 17 * iI 17)], [.int (pw (fun j => iI (slH w p q r H j)) (A 0) (k0 + n) (iI ((k0 + n : Nat) : Int)).toNatClampNeg + iI p * iI n + iI q * iI y + (iI n * iI 7 + iI y * iI 13 + iI n * iI y * iI 5 - (iI n * iI 7 + iI y * iI 13 + iI n * iI y * iI 5) / iI 17 * iI 17) * iI r), .int (iI ((k0 + n : Nat) : Int)), .ref (mj_NE + 1)], Wd xs L (wA A 0 (pw (fun j => iI (slH w p q r H j)) (A 0) (k0 + n))) V Y, 0, 0) := r_to ok_Land_slope 9999 [] rfl ⟨by show ¬ (iI 17 = iI 0); decide +kernel, hin, trivial⟩
      rw [eb, hc, pw_ge (Nat.lt_irrefl _), e0, iI_mul, iI_mul, iI_mul, iI_add, iI_add, iI_add] at s3
      have s4 := r_tr (r_tr s2 s3) (q_V ok_Land_slope ok_Land_exchange se_Land_exchange (c_exchange (i := ((k0 + n : Nat) : Int)) ⟨by omega, by omega⟩ ⟨by omega, by omega⟩) rfl rfl rfl rfl rfl ⟨rfl, rfl, rfl⟩)
      rw [wA_s, wA_f, Int.toNat_natCast, pw_s (by unfold slH; rw [hk, hxy.1, hxy.2])] at s4
      have s5 := r_tr s4 (r_to (g' := (15, [.ref (mj_NE + 1), .int (iI p), .int (iI q), .int (iI r), .int (iI y), .int (iI n + 1), .int (iI ((k0 + n : Nat) : Int)), .int (iI (bump n y))], [], Wd xs L (wA A 0 (pw (fun j => iI (slH w p q r H j)) (A 0) (k0 + n + 1))) V Y, 0, 0)) ok_Land_slope 15 [] rfl trivial)
      rw [iI_1] at s5
      exact ⟨_, _, _, ⟨rfl, trivial⟩, s5⟩
  have rows : ∀ n : Nat, (n : Int) ≤ h → ∃ (A1 : Nat → Nat → Int32) (u5 u6 u7 : Value), (A1 = wA A 0 (pw (fun j => iI (slH w p q r H j)) (A 0) ((n : Int) * w).toNat) ∧ True) ∧ mj_Rc m_Land_slope 0 0 1 (3, [.ref (mj_NE + 1), .int (iI p), .int (iI q), .int (iI r), .int 0, mj_u, mj_u, mj_u], [], Wd xs L A V Y, 0, 0) (3, [.ref (mj_NE + 1), .int (iI p), .int (iI q), .int (iI r), .int (iI n), u5, u6, u7], [], Wd xs L A1 V Y, 0, 0) := by
    intro n
    induction n with
    | zero => intro _; exact ⟨A, mj_u, mj_u, mj_u, ⟨by rw [show ((0 : Nat) : Int) * w = 0 by simp]; rw [show (0 : Int).toNat = 0 from rfl, pw_0, wA_id], trivial⟩, r_rf⟩
    | succ n ih =>
      intro hn
      obtain ⟨A1, u5, u6, u7, hp, hr⟩ := ih (by omega)
      have hnw : 0 ≤ (n : Int) * w := Int.mul_nonneg (by omega) (by omega)
      have t1 := r_tr hr (r_to (g' := (15, [.ref (mj_NE + 1), .int (iI p), .int (iI q), .int (iI r), .int (iI n), .int 0, u6, u7], [], Wd xs L A1 V Y, 0, 0)) ok_Land_slope 15 [false] rfl ⟨br_ge h1 ⟨by omega, by omega⟩ ⟨by omega, by omega⟩ (by omega), trivial⟩)
      obtain ⟨A1, u6, u7, hp, hr2⟩ := row _ n ((n : Int) * w).toNat ⟨by omega, by omega⟩ (by omega) ⟨_, _, _, hp, t1⟩ w.toNat (by omega)
      have t2 := r_tr hr2 (r_to (g' := (3, [.ref (mj_NE + 1), .int (iI p), .int (iI q), .int (iI r), .int (iI n + 1), .int (iI w.toNat), u6, u7], [], Wd xs L A1 V Y, 0, 0)) ok_Land_slope 3 [true] rfl ⟨br_lt h0 ⟨by omega, by omega⟩ ⟨by omega, by omega⟩ (by omega), trivial⟩)
      rw [iI_1] at t2
      have e : (((n + 1 : Nat) : Int) * w).toNat = ((n : Int) * w).toNat + w.toNat := by
        rw [Int.natCast_add, Int.add_mul]
        omega
      rw [e]
      exact ⟨_, _, _, _, hp, t2⟩
  obtain ⟨A1, u5, u6, u7, hp, hr⟩ := rows h.toNat (by omega)
  have hwh : ((h.toNat : Nat) : Int) * w = w * h := by rw [Int.mul_comm]; congr 1; omega
  rw [hwh] at hp
  obtain ⟨rfl, -⟩ := hp
  exact ct_of ok_Land_slope rfl (r_tr (r_to ok_Land_slope 3 [] rfl trivial) (r_tr hr (r_to ok_Land_slope 9999 [true] rfl ⟨br_lt h1 ⟨by omega, by omega⟩ ⟨by omega, by omega⟩ (by omega), trivial⟩))) rfl rfl rfl rfl rfl
end LAND5
end
