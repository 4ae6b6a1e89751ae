-- ===== PART A: goes FIRST, ahead of the names: the tables' words, and 'selects' of the private methods out of them =====
/-- a private method of a class that the tables say can be made, by its rows of tables_1 -/
def lw_okq (q : MethodName × Nat) : Prop := (q.1.cls ≠ "java/lang/invoke/MethodHandle" ∧ q.1.cls ≠ "java/lang/invoke/VarHandle") ∧ Cond.instantiable q.1.cls q.2 ∈ tables_1 ∧ Cond.privateMethod q.1 ∈ tables_1 ∧ Cond.instanceMethod q.1 ∈ tables_1
theorem lw_p0 : lw_okq (⟨"WatershedMap$Land", "findNeighbours", "(II)V"⟩, 6) := ⟨⟨by decide +kernel, by decide +kernel⟩, List.mem_of_getElem? (i := 27) (by decide +kernel), List.mem_of_getElem? (i := 226) (by decide +kernel), List.mem_of_getElem? (i := 227) (by decide +kernel)⟩
theorem lw_p1 : lw_okq (⟨"java/lang/Throwable", "fillInStackTrace", "(I)Ljava/lang/Throwable;"⟩, 6) := ⟨⟨by decide +kernel, by decide +kernel⟩, List.mem_of_getElem? (i := 311) (by decide +kernel), List.mem_of_getElem? (i := 309) (by decide +kernel), List.mem_of_getElem? (i := 310) (by decide +kernel)⟩
theorem lw_p2 : lw_okq (⟨"WatershedMap", "checkField", "(II)V"⟩, 8) := ⟨⟨by decide +kernel, by decide +kernel⟩, List.mem_of_getElem? (i := 19) (by decide +kernel), List.mem_of_getElem? (i := 345) (by decide +kernel), List.mem_of_getElem? (i := 346) (by decide +kernel)⟩
theorem lw_p3 : lw_okq (⟨"WatershedMap$Streams", "chooseDirection", "(I)V"⟩, 12) := ⟨⟨by decide +kernel, by decide +kernel⟩, List.mem_of_getElem? (i := 67) (by decide +kernel), List.mem_of_getElem? (i := 415) (by decide +kernel), List.mem_of_getElem? (i := 416) (by decide +kernel)⟩
theorem lw_p4 : lw_okq (⟨"WatershedMap$Streams", "putInOrder", "()V"⟩, 12) := ⟨⟨by decide +kernel, by decide +kernel⟩, List.mem_of_getElem? (i := 67) (by decide +kernel), List.mem_of_getElem? (i := 427) (by decide +kernel), List.mem_of_getElem? (i := 428) (by decide +kernel)⟩
theorem lw_p5 : lw_okq (⟨"WatershedMap$Streams", "putNext", "(I)V"⟩, 12) := ⟨⟨by decide +kernel, by decide +kernel⟩, List.mem_of_getElem? (i := 67) (by decide +kernel), List.mem_of_getElem? (i := 432) (by decide +kernel), List.mem_of_getElem? (i := 433) (by decide +kernel)⟩
theorem lw_p6 : lw_okq (⟨"WatershedMap$Streams", "passDown", "(II)V"⟩, 12) := ⟨⟨by decide +kernel, by decide +kernel⟩, List.mem_of_getElem? (i := 67) (by decide +kernel), List.mem_of_getElem? (i := 436) (by decide +kernel), List.mem_of_getElem? (i := 437) (by decide +kernel)⟩
theorem lw_p7 : lw_okq (⟨"WatershedMap$Streams", "findEnd", "(I)V"⟩, 12) := ⟨⟨by decide +kernel, by decide +kernel⟩, List.mem_of_getElem? (i := 67) (by decide +kernel), List.mem_of_getElem? (i := 441) (by decide +kernel), List.mem_of_getElem? (i := 442) (by decide +kernel)⟩
theorem lw_p8 : lw_okq (⟨"WatershedMap$Hollows", "findLevels", "()V"⟩, 5) := ⟨⟨by decide +kernel, by decide +kernel⟩, List.mem_of_getElem? (i := 116) (by decide +kernel), List.mem_of_getElem? (i := 467) (by decide +kernel), List.mem_of_getElem? (i := 468) (by decide +kernel)⟩
theorem lw_p9 : lw_okq (⟨"WatershedMap$Hollows", "spread", "(I)V"⟩, 5) := ⟨⟨by decide +kernel, by decide +kernel⟩, List.mem_of_getElem? (i := 116) (by decide +kernel), List.mem_of_getElem? (i := 484) (by decide +kernel), List.mem_of_getElem? (i := 485) (by decide +kernel)⟩
theorem lw_p10 : lw_okq (⟨"WatershedMap$Hollows", "inLake", "(I)Z"⟩, 5) := ⟨⟨by decide +kernel, by decide +kernel⟩, List.mem_of_getElem? (i := 116) (by decide +kernel), List.mem_of_getElem? (i := 494) (by decide +kernel), List.mem_of_getElem? (i := 495) (by decide +kernel)⟩
theorem lw_p11 : lw_okq (⟨"WatershedMap$Hollows", "depth", "(I)I"⟩, 5) := ⟨⟨by decide +kernel, by decide +kernel⟩, List.mem_of_getElem? (i := 116) (by decide +kernel), List.mem_of_getElem? (i := 498) (by decide +kernel), List.mem_of_getElem? (i := 499) (by decide +kernel)⟩
theorem lw_p12 : lw_okq (⟨"WatershedMap$Hollows", "joinLakes", "(II)V"⟩, 5) := ⟨⟨by decide +kernel, by decide +kernel⟩, List.mem_of_getElem? (i := 116) (by decide +kernel), List.mem_of_getElem? (i := 502) (by decide +kernel), List.mem_of_getElem? (i := 503) (by decide +kernel)⟩
theorem lw_p13 : lw_okq (⟨"WatershedMap$Land", "lowest", "()I"⟩, 6) := ⟨⟨by decide +kernel, by decide +kernel⟩, List.mem_of_getElem? (i := 27) (by decide +kernel), List.mem_of_getElem? (i := 530) (by decide +kernel), List.mem_of_getElem? (i := 531) (by decide +kernel)⟩
theorem lw_p14 : lw_okq (⟨"WatershedMap$Land", "sum", "()I"⟩, 6) := ⟨⟨by decide +kernel, by decide +kernel⟩, List.mem_of_getElem? (i := 27) (by decide +kernel), List.mem_of_getElem? (i := 535) (by decide +kernel), List.mem_of_getElem? (i := 536) (by decide +kernel)⟩
theorem lw_p15 : lw_okq (⟨"WatershedMap$Hollows", "inOneLake", "(II)Z"⟩, 5) := ⟨⟨by decide +kernel, by decide +kernel⟩, List.mem_of_getElem? (i := 116) (by decide +kernel), List.mem_of_getElem? (i := 587) (by decide +kernel), List.mem_of_getElem? (i := 588) (by decide +kernel)⟩
def lw_privs_1 : List (MethodName × Nat) := [(⟨"WatershedMap$Land", "findNeighbours", "(II)V"⟩, 6), (⟨"java/lang/Throwable", "fillInStackTrace", "(I)Ljava/lang/Throwable;"⟩, 6), (⟨"WatershedMap", "checkField", "(II)V"⟩, 8), (⟨"WatershedMap$Streams", "chooseDirection", "(I)V"⟩, 12), (⟨"WatershedMap$Streams", "putInOrder", "()V"⟩, 12), (⟨"WatershedMap$Streams", "putNext", "(I)V"⟩, 12), (⟨"WatershedMap$Streams", "passDown", "(II)V"⟩, 12), (⟨"WatershedMap$Streams", "findEnd", "(I)V"⟩, 12), (⟨"WatershedMap$Hollows", "findLevels", "()V"⟩, 5), (⟨"WatershedMap$Hollows", "spread", "(I)V"⟩, 5), (⟨"WatershedMap$Hollows", "inLake", "(I)Z"⟩, 5), (⟨"WatershedMap$Hollows", "depth", "(I)I"⟩, 5), (⟨"WatershedMap$Hollows", "joinLakes", "(II)V"⟩, 5), (⟨"WatershedMap$Land", "lowest", "()I"⟩, 6), (⟨"WatershedMap$Land", "sum", "()I"⟩, 6), (⟨"WatershedMap$Hollows", "inOneLake", "(II)Z"⟩, 5)]
theorem lw_r1 : ∀ q ∈ lw_privs_1, lw_okq q := List.forall_mem_cons.mpr ⟨lw_p0, List.forall_mem_cons.mpr ⟨lw_p1, List.forall_mem_cons.mpr ⟨lw_p2, List.forall_mem_cons.mpr ⟨lw_p3, List.forall_mem_cons.mpr ⟨lw_p4, List.forall_mem_cons.mpr ⟨lw_p5, List.forall_mem_cons.mpr ⟨lw_p6, List.forall_mem_cons.mpr ⟨lw_p7, List.forall_mem_cons.mpr ⟨lw_p8, List.forall_mem_cons.mpr ⟨lw_p9, List.forall_mem_cons.mpr ⟨lw_p10, List.forall_mem_cons.mpr ⟨lw_p11, List.forall_mem_cons.mpr ⟨lw_p12, List.forall_mem_cons.mpr ⟨lw_p13, List.forall_mem_cons.mpr ⟨lw_p14, List.forall_mem_cons.mpr ⟨lw_p15, fun _ h => absurd h List.not_mem_nil⟩⟩⟩⟩⟩⟩⟩⟩⟩⟩⟩⟩⟩⟩⟩⟩
theorem lw_p16 : lw_okq (⟨"WatershedMap$Contours", "drawSquare", "(III)V"⟩, 6) := ⟨⟨by decide +kernel, by decide +kernel⟩, List.mem_of_getElem? (i := 163) (by decide +kernel), List.mem_of_getElem? (i := 615) (by decide +kernel), List.mem_of_getElem? (i := 616) (by decide +kernel)⟩
theorem lw_p17 : lw_okq (⟨"WatershedMap$Contours", "sumOfSquare", "(II)I"⟩, 6) := ⟨⟨by decide +kernel, by decide +kernel⟩, List.mem_of_getElem? (i := 163) (by decide +kernel), List.mem_of_getElem? (i := 625) (by decide +kernel), List.mem_of_getElem? (i := 626) (by decide +kernel)⟩
theorem lw_p18 : lw_okq (⟨"WatershedMap$Contours", "addPiece", "(II)V"⟩, 6) := ⟨⟨by decide +kernel, by decide +kernel⟩, List.mem_of_getElem? (i := 163) (by decide +kernel), List.mem_of_getElem? (i := 629) (by decide +kernel), List.mem_of_getElem? (i := 630) (by decide +kernel)⟩
theorem lw_p19 : lw_okq (⟨"WatershedMap$Contours", "tie", "(II)V"⟩, 6) := ⟨⟨by decide +kernel, by decide +kernel⟩, List.mem_of_getElem? (i := 163) (by decide +kernel), List.mem_of_getElem? (i := 633) (by decide +kernel), List.mem_of_getElem? (i := 634) (by decide +kernel)⟩
theorem lw_p20 : lw_okq (⟨"WatershedMap$Ways", "spread", "(I)V"⟩, 3) := ⟨⟨by decide +kernel, by decide +kernel⟩, List.mem_of_getElem? (i := 200) (by decide +kernel), List.mem_of_getElem? (i := 682) (by decide +kernel), List.mem_of_getElem? (i := 683) (by decide +kernel)⟩
theorem lw_p21 : lw_okq (⟨"WatershedMap$Ways", "step", "(III)I"⟩, 3) := ⟨⟨by decide +kernel, by decide +kernel⟩, List.mem_of_getElem? (i := 200) (by decide +kernel), List.mem_of_getElem? (i := 687) (by decide +kernel), List.mem_of_getElem? (i := 688) (by decide +kernel)⟩
theorem lw_p22 : lw_okq (⟨"WatershedMap$Ways", "fieldAhead", "(I)I"⟩, 3) := ⟨⟨by decide +kernel, by decide +kernel⟩, List.mem_of_getElem? (i := 200) (by decide +kernel), List.mem_of_getElem? (i := 702) (by decide +kernel), List.mem_of_getElem? (i := 703) (by decide +kernel)⟩
theorem lw_p23 : lw_okq (⟨"WatershedMap", "digestOfMap", "(J)J"⟩, 8) := ⟨⟨by decide +kernel, by decide +kernel⟩, List.mem_of_getElem? (i := 19) (by decide +kernel), List.mem_of_getElem? (i := 726) (by decide +kernel), List.mem_of_getElem? (i := 727) (by decide +kernel)⟩
theorem lw_p24 : lw_okq (⟨"WatershedMap", "digestOfFields", "(J)J"⟩, 8) := ⟨⟨by decide +kernel, by decide +kernel⟩, List.mem_of_getElem? (i := 19) (by decide +kernel), List.mem_of_getElem? (i := 733) (by decide +kernel), List.mem_of_getElem? (i := 734) (by decide +kernel)⟩
def lw_privs_2 : List (MethodName × Nat) := [(⟨"WatershedMap$Contours", "drawSquare", "(III)V"⟩, 6), (⟨"WatershedMap$Contours", "sumOfSquare", "(II)I"⟩, 6), (⟨"WatershedMap$Contours", "addPiece", "(II)V"⟩, 6), (⟨"WatershedMap$Contours", "tie", "(II)V"⟩, 6), (⟨"WatershedMap$Ways", "spread", "(I)V"⟩, 3), (⟨"WatershedMap$Ways", "step", "(III)I"⟩, 3), (⟨"WatershedMap$Ways", "fieldAhead", "(I)I"⟩, 3), (⟨"WatershedMap", "digestOfMap", "(J)J"⟩, 8), (⟨"WatershedMap", "digestOfFields", "(J)J"⟩, 8)]
theorem lw_r2 : ∀ q ∈ lw_privs_2, lw_okq q := List.forall_mem_cons.mpr ⟨lw_p16, List.forall_mem_cons.mpr ⟨lw_p17, List.forall_mem_cons.mpr ⟨lw_p18, List.forall_mem_cons.mpr ⟨lw_p19, List.forall_mem_cons.mpr ⟨lw_p20, List.forall_mem_cons.mpr ⟨lw_p21, List.forall_mem_cons.mpr ⟨lw_p22, List.forall_mem_cons.mpr ⟨lw_p23, List.forall_mem_cons.mpr ⟨lw_p24, fun _ h => absurd h List.not_mem_nil⟩⟩⟩⟩⟩⟩⟩⟩⟩
def lw_privs : List (MethodName × Nat) := lw_privs_1 ++ (lw_privs_2)
def lw_tbl : List Cond := k2_sels lw_privs ++ tables_1
theorem lw_privs_ok : ∀ q ∈ lw_privs, lw_okq q := by
  show ∀ q ∈ lw_privs_1 ++ (lw_privs_2), lw_okq q
  exact List.forall_mem_append.mpr ⟨lw_r1, lw_r2⟩

-- the pure machine: tables, by program (wip/p1/gen01.py)
def mj_u : Value := .retAddr 0
abbrev mj_I : Type := Instr × Nat × Nat × Nat × Nat × Value
def mj_T0 : u_T := fun k => match k with
  | 0 => ("WatershedMap$Contours", "land", "LWatershedMap$Land;", true)
  | 1 => ("WatershedMap$Contours", "pieceAt", "[I", true)
  | 2 => ("WatershedMap$Contours", "groups", "LWatershedMap$Groups;", true)
  | 3 => ("WatershedMap$Contours", "pieces", "I", false)
  | 4 => ("WatershedMap$Contours", "lines", "I", false)
  | _ => ("WatershedMap$Contours", "closed", "I", false)
def mj_T1 : u_T := fun k => match k with
  | 0 => ("WatershedMap$Frontier", "members", "[I", true)
  | _ => ("WatershedMap$Frontier", "size", "I", false)
def mj_T2 : u_T := fun k => match k with
  | _ => ("WatershedMap$Groups", "leaders", "[I", true)
def mj_T3 : u_T := fun k => match k with
  | 0 => ("WatershedMap$Hollows", "land", "LWatershedMap$Land;", true)
  | 1 => ("WatershedMap$Hollows", "levels", "[I", true)
  | 2 => ("WatershedMap$Hollows", "frontier", "LWatershedMap$Frontier;", true)
  | 3 => ("WatershedMap$Hollows", "groups", "LWatershedMap$Groups;", true)
  | _ => ("WatershedMap$Hollows", "lakeCount", "I", false)
def mj_T4 : u_T := fun k => match k with
  | 0 => ("WatershedMap$Land", "heights", "[I", true)
  | 1 => ("WatershedMap$Land", "after", "[I", true)
  | 2 => ("WatershedMap$Land", "neighbours", "[I", true)
  | 3 => ("WatershedMap$Land", "w", "I", false)
  | 4 => ("WatershedMap$Land", "h", "I", false)
  | _ => ("WatershedMap$Land", "fields", "I", false)
def mj_T5 : u_T := fun k => match k with
  | _ => ("WatershedMap$Sight", "land", "LWatershedMap$Land;", true)
def mj_T6 : u_T := fun k => match k with
  | 0 => ("WatershedMap$Streams", "land", "LWatershedMap$Land;", true)
  | 1 => ("WatershedMap$Streams", "directions", "[I", true)
  | 2 => ("WatershedMap$Streams", "next", "[I", true)
  | 3 => ("WatershedMap$Streams", "flows", "[I", true)
  | 4 => ("WatershedMap$Streams", "ends", "[I", true)
  | 5 => ("WatershedMap$Streams", "distances", "[I", true)
  | 6 => ("WatershedMap$Streams", "ranks", "[I", true)
  | 7 => ("WatershedMap$Streams", "lengths", "[I", true)
  | 8 => ("WatershedMap$Streams", "awaited", "[I", true)
  | 9 => ("WatershedMap$Streams", "shared", "[Z", true)
  | 10 => ("WatershedMap$Streams", "order", "[I", true)
  | _ => ("WatershedMap$Streams", "ordered", "I", false)
def mj_T7 : u_T := fun k => match k with
  | 0 => ("WatershedMap$Ways", "land", "LWatershedMap$Land;", true)
  | 1 => ("WatershedMap$Ways", "least", "[I", true)
  | _ => ("WatershedMap$Ways", "frontier", "LWatershedMap$Frontier;", true)
def mj_T8 : u_T := fun k => match k with
  | 0 => ("WatershedMap", "land", "LWatershedMap$Land;", true)
  | 1 => ("WatershedMap", "streams", "LWatershedMap$Streams;", true)
  | 2 => ("WatershedMap", "hollows", "LWatershedMap$Hollows;", true)
  | 3 => ("WatershedMap", "contours", "LWatershedMap$Contours;", true)
  | 4 => ("WatershedMap", "sight", "LWatershedMap$Sight;", true)
  | 5 => ("WatershedMap", "ways", "LWatershedMap$Ways;", true)
  | 6 => ("WatershedMap", "endsBefore", "[I", true)
  | _ => ("WatershedMap", "brook", "I", false)
abbrev mj_cl : List vw_C := [("WatershedMap$Contours", mj_T0, 6), ("WatershedMap$Frontier", mj_T1, 2), ("WatershedMap$Groups", mj_T2, 1), ("WatershedMap$Hollows", mj_T3, 5), ("WatershedMap$Land", mj_T4, 6), ("WatershedMap$Sight", mj_T5, 1), ("WatershedMap$Streams", mj_T6, 12), ("WatershedMap$Ways", mj_T7, 3), ("WatershedMap", mj_T8, 8)]
/-- the fields of a class as they are when it is made -/
def mj_df : List (List Value) := [[.null, .null, .null, .int 0, .int 0, .int 0], [.null, .int 0], [.null], [.null, .null, .null, .null, .int 0], [.null, .null, .null, .int 0, .int 0, .int 0], [.null], [.null, .null, .null, .null, .null, .null, .null, .null, .null, .null, .null, .int 0], [.null, .null, .null], [.null, .null, .null, .null, .null, .null, .null, .int 0]]
/-- where the tables say that a class can be made, is initialised -/
def mj_np : List (Nat × Nat) := [(188, 32), (147, 30), (160, 31), (141, 29), (52, 27), (215, 33), (92, 28), (225, 34), (44, 26)]
/-- where the tables lay a field -/
def mj_lp : List (List Nat) := [[201, 203, 205, 207, 209, 211], [154, 156], [166], [176, 178, 180, 182, 184], [77, 79, 81, 83, 85, 87], [221], [114, 116, 118, 120, 122, 124, 126, 128, 130, 132, 134, 136], [236, 238, 240], [274, 276, 278, 280, 282, 284, 286, 288]]
def mj_cn : List String := ["WatershedMap$Contours", "WatershedMap$Frontier", "WatershedMap$Groups", "WatershedMap$Hollows", "WatershedMap$Land", "WatershedMap$Sight", "WatershedMap$Streams", "WatershedMap$Ways", "WatershedMap", "java/lang/Math", "java/util/Arrays", "WatershedMapLaw", "java/util/AbstractList", "java/util/AbstractCollection"]
def mj_ob1 : Nat := 49
def mj_ob2 : Nat := 50
/-- where the tables speak of System.arraycopy: native, static, its class initialised -/
def mj_acp : Nat × Nat × Nat := (740, 739, 42)
def mj_NE : Nat := 4
/-- the kinds of arrays that are made -/
def mj_tyl : List FieldType := [.int, .boolean]
def mj_typ : List Nat := [90, 139]
/-- the static arrays, by their places among the cells -/
def mj_st : List (String × String × String) := [("WatershedMap", "STEP_X", "[I"), ("WatershedMap", "STEP_Y", "[I"), ("WatershedMap", "DIGEST_CONTOURS", "[I")]
/-- what the static arrays hold -/
def mj_s0 : Nat → Int32 := fun j => [1, 1, 0, (-1), (-1), (-1), 0, 1].getD j 0
def mj_s1 : Nat → Int32 := fun j => [0, 1, 1, 1, 0, (-1), (-1), (-1)].getD j 0
def mj_s2 : Nat → Int32 := fun j => [100, 200, 400].getD j 0
/-- the cells that stand ahead of the class: static arrays, the script -/
def mj_pre (xs : Nat → Int32) (L : Nat) (r : List ((FieldType × vp_A) ⊕ (Nat × List Value))) : List ((FieldType × vp_A) ⊕ (Nat × List Value)) := .inl (.int, 8, .inl mj_s0) :: .inl (.int, 8, .inl mj_s1) :: .inl (.int, 3, .inl mj_s2) :: .inl (.int, L, .inl xs) :: r
def mj_sl : List Nat := [8, 8, 3]
def mj_nest : List Cond := [(Jvm.Cond.methodLinkNest "WatershedMap" (9 : Nat) ({ cls := "WatershedMap$Land", name := "<init>", desc := "()V" } : Jvm.MethodName) "WatershedMap"), (Jvm.Cond.methodLinkNest "WatershedMap$Hollows" (17 : Nat) ({ cls := "WatershedMap$Frontier", name := "<init>", desc := "()V" } : Jvm.MethodName) "WatershedMap"), (Jvm.Cond.methodLinkNest "WatershedMap$Hollows" (24 : Nat) ({ cls := "WatershedMap$Groups", name := "<init>", desc := "()V" } : Jvm.MethodName) "WatershedMap"), (Jvm.Cond.methodLinkNest "WatershedMap$Contours" (17 : Nat) ({ cls := "WatershedMap$Groups", name := "<init>", desc := "()V" } : Jvm.MethodName) "WatershedMap"), (Jvm.Cond.methodLinkNest "WatershedMap$Ways" (17 : Nat) ({ cls := "WatershedMap$Frontier", name := "<init>", desc := "()V" } : Jvm.MethodName) "WatershedMap"), (Jvm.Cond.fieldLinkNest "WatershedMap$Land" (41 : Nat) "WatershedMap" "STEP_X" "[I" "WatershedMap"), (Jvm.Cond.fieldLinkNest "WatershedMap$Land" (44 : Nat) "WatershedMap" "STEP_Y" "[I" "WatershedMap")]
def mj_nestp : List Nat := [53, 148, 161, 194, 231, 254, 256]
def mj_ys : List MethodName := [⟨"WatershedMap", "<init>", "()V"⟩,
  ⟨"WatershedMap$Land", "<init>", "()V"⟩,
  ⟨"WatershedMap$Streams", "<init>", "(LWatershedMap$Land;)V"⟩,
  ⟨"WatershedMap$Hollows", "<init>", "(LWatershedMap$Land;)V"⟩,
  ⟨"WatershedMap$Frontier", "<init>", "()V"⟩,
  ⟨"WatershedMap$Groups", "<init>", "()V"⟩,
  ⟨"WatershedMap$Contours", "<init>", "(LWatershedMap$Land;)V"⟩,
  ⟨"WatershedMap$Sight", "<init>", "(LWatershedMap$Land;)V"⟩,
  ⟨"WatershedMap$Ways", "<init>", "(LWatershedMap$Land;)V"⟩,
  ⟨"WatershedMap$Land", "layOut", "(II)V"⟩,
  ⟨"java/util/Arrays", "fill", "([II)V"⟩,
  ⟨"WatershedMap$Land", "findNeighbours", "(II)V"⟩,
  ⟨"WatershedMap$Land", "numberOf", "(II)I"⟩,
  ⟨"WatershedMap$Land", "has", "(II)Z"⟩,
  ⟨"WatershedMap", "reset", "(II)I"⟩,
  ⟨"WatershedMap", "checkRange", "(III)V"⟩,
  ⟨"WatershedMap", "set", "(III)I"⟩,
  ⟨"WatershedMap", "checkField", "(II)V"⟩,
  ⟨"WatershedMap$Land", "exchange", "(II)I"⟩,
  ⟨"WatershedMap", "tilt", "(III)I"⟩,
  ⟨"WatershedMap$Land", "slope", "(III)V"⟩,
  ⟨"WatershedMap$Land", "greatest", "()I"⟩,
  ⟨"java/lang/Math", "max", "(II)I"⟩,
  ⟨"WatershedMap", "hill", "(IIII)I"⟩,
  ⟨"WatershedMap$Land", "raise", "(IIII)I"⟩,
  ⟨"WatershedMap", "smooth", "()I"⟩,
  ⟨"WatershedMap$Land", "soften", "()I"⟩,
  ⟨"WatershedMap$Land", "neighbour", "(II)I"⟩,
  ⟨"WatershedMap", "wear", "(I)I"⟩,
  ⟨"WatershedMap$Streams", "run", "(I)V"⟩,
  ⟨"WatershedMap$Streams", "chooseDirection", "(I)V"⟩,
  ⟨"WatershedMap$Land", "atEdge", "(I)Z"⟩,
  ⟨"WatershedMap$Land", "slanted", "(I)Z"⟩,
  ⟨"WatershedMap$Streams", "putInOrder", "()V"⟩,
  ⟨"WatershedMap$Streams", "putNext", "(I)V"⟩,
  ⟨"WatershedMap$Streams", "passDown", "(II)V"⟩,
  ⟨"WatershedMap$Streams", "findEnd", "(I)V"⟩,
  ⟨"WatershedMap$Land", "washAway", "(LWatershedMap$Streams;I)I"⟩,
  ⟨"WatershedMap$Land", "difference", "(II)I"⟩,
  ⟨"java/lang/Math", "abs", "(I)I"⟩,
  ⟨"java/lang/Math", "min", "(II)I"⟩,
  ⟨"WatershedMap", "fill", "()I"⟩,
  ⟨"WatershedMap$Hollows", "find", "()V"⟩,
  ⟨"WatershedMap$Hollows", "findLevels", "()V"⟩,
  ⟨"WatershedMap$Frontier", "clear", "()V"⟩,
  ⟨"WatershedMap$Frontier", "add", "(I)V"⟩,
  ⟨"WatershedMap$Frontier", "takeLeast", "([I)I"⟩,
  ⟨"WatershedMap$Hollows", "spread", "(I)V"⟩,
  ⟨"WatershedMap$Groups", "part", "()V"⟩,
  ⟨"WatershedMap$Hollows", "inLake", "(I)Z"⟩,
  ⟨"WatershedMap$Hollows", "depth", "(I)I"⟩,
  ⟨"WatershedMap$Hollows", "joinLakes", "(II)V"⟩,
  ⟨"WatershedMap$Groups", "join", "(II)Z"⟩,
  ⟨"WatershedMap$Groups", "leaderOf", "(I)I"⟩,
  ⟨"WatershedMap$Land", "raiseTo", "([I)I"⟩,
  ⟨"WatershedMap", "setBrook", "(I)I"⟩,
  ⟨"WatershedMap", "map", "(I)I"⟩,
  ⟨"WatershedMap$Land", "told", "(I)I"⟩,
  ⟨"WatershedMap$Land", "lowest", "()I"⟩,
  ⟨"WatershedMap$Land", "sum", "()I"⟩,
  ⟨"WatershedMap", "height", "(II)I"⟩,
  ⟨"WatershedMap", "water", "(III)I"⟩,
  ⟨"WatershedMap$Streams", "told", "(II)I"⟩,
  ⟨"WatershedMap", "basins", "()I"⟩,
  ⟨"WatershedMap$Streams", "count", "(I)I"⟩,
  ⟨"WatershedMap", "pits", "()I"⟩,
  ⟨"WatershedMap", "mostRank", "()I"⟩,
  ⟨"WatershedMap$Streams", "greatestOf", "([I)I"⟩,
  ⟨"WatershedMap", "level", "(II)I"⟩,
  ⟨"WatershedMap", "lakes", "()I"⟩,
  ⟨"WatershedMap", "lake", "(III)I"⟩,
  ⟨"WatershedMap$Hollows", "sizeOfLake", "(I)I"⟩,
  ⟨"WatershedMap$Hollows", "inOneLake", "(II)Z"⟩,
  ⟨"WatershedMap$Hollows", "contentOfLake", "(I)I"⟩,
  ⟨"WatershedMap", "volume", "()I"⟩,
  ⟨"WatershedMap$Hollows", "content", "()I"⟩,
  ⟨"WatershedMap", "contour", "(II)I"⟩,
  ⟨"WatershedMap$Contours", "draw", "(I)V"⟩,
  ⟨"WatershedMap$Contours", "drawSquare", "(III)V"⟩,
  ⟨"WatershedMap$Contours", "sideRightOf", "(I)I"⟩,
  ⟨"WatershedMap$Contours", "sideBelow", "(I)I"⟩,
  ⟨"WatershedMap$Contours", "sumOfSquare", "(II)I"⟩,
  ⟨"WatershedMap$Contours", "addPiece", "(II)V"⟩,
  ⟨"WatershedMap$Contours", "tie", "(II)V"⟩,
  ⟨"WatershedMap$Contours", "told", "(I)I"⟩,
  ⟨"WatershedMap", "sees", "(IIIII)Z"⟩,
  ⟨"WatershedMap$Sight", "reaches", "(IIIII)Z"⟩,
  ⟨"WatershedMap$Land", "stepsBetween", "(IIII)I"⟩,
  ⟨"WatershedMap$Land", "between", "(IIII)I"⟩,
  ⟨"java/lang/Math", "floorDiv", "(II)I"⟩,
  ⟨"WatershedMap", "seen", "(III)I"⟩,
  ⟨"WatershedMap$Sight", "countFrom", "(III)I"⟩,
  ⟨"WatershedMap", "takes", "(IIII)I"⟩,
  ⟨"WatershedMap$Ways", "spreadFrom", "(I)V"⟩,
  ⟨"WatershedMap$Ways", "spread", "(I)V"⟩,
  ⟨"WatershedMap$Ways", "step", "(III)I"⟩,
  ⟨"WatershedMap", "way", "(IIIII)I"⟩,
  ⟨"WatershedMap$Ways", "goBack", "(III)I"⟩,
  ⟨"WatershedMap$Ways", "fieldAhead", "(I)I"⟩,
  ⟨"WatershedMap", "volumeWith", "(III)I"⟩,
  ⟨"WatershedMap", "endsWith", "(III)I"⟩,
  ⟨"WatershedMap", "lookout", "(II)I"⟩,
  ⟨"WatershedMap", "digest", "()J"⟩,
  ⟨"WatershedMap", "digestOfMap", "(J)J"⟩,
  ⟨"WatershedMap", "digestOfFields", "(J)J"⟩,
  ⟨"WatershedMapLaw", "below", "(II)I"⟩,
  ⟨"WatershedMapLaw", "cell", "([II)I"⟩]
-- name, bytes, locals, answer, own class, parameters, places of: code, instanceMethod or static, selects (instance methods), initialized
abbrev mj_M : Type := Nat × ByteArray × Nat × Option FieldType × Nat × Nat × Nat × Nat × Nat × Nat × Nat × (Nat → Option mj_I)
/-- WatershedMap.<init>()V -/
def k_W_init : Nat → Option mj_I := fun pc =>
  bif Nat.blt pc 57 then (bif Nat.blt pc 27 then (bif Nat.blt pc 12 then (bif Nat.blt pc 5 then (bif Nat.blt pc 1 then (bif Nat.beq pc 0 then some (.aload_n 0, 1, 0, 0, 0, mj_u) else none) else
      (bif Nat.blt pc 4 then (bif Nat.beq pc 1 then some (.invokespecial 1, 3, 1000, 0, 48, mj_u) else none) else
       (bif Nat.beq pc 4 then some (.aload_n 0, 1, 0, 0, 0, mj_u) else none))) else
     (bif Nat.blt pc 8 then (bif Nat.beq pc 5 then some (.new 7, 3, 4, 52, 51, mj_u) else none) else
      (bif Nat.blt pc 9 then (bif Nat.beq pc 8 then some (.dup, 1, 0, 0, 0, mj_u) else none) else
       (bif Nat.beq pc 9 then some (.invokespecial 9, 3, 1, 1, 53, mj_u) else none)))) else
    (bif Nat.blt pc 19 then (bif Nat.blt pc 15 then (bif Nat.beq pc 12 then some (.putfield 10, 3, 8, 0, 266, .null) else none) else
      (bif Nat.blt pc 16 then (bif Nat.beq pc 15 then some (.aload_n 0, 1, 0, 0, 0, mj_u) else none) else
       (bif Nat.beq pc 16 then some (.new 16, 3, 6, 92, 91, mj_u) else none))) else
     (bif Nat.blt pc 21 then (bif Nat.blt pc 20 then (bif Nat.beq pc 19 then some (.dup, 1, 0, 0, 0, mj_u) else none) else
       (bif Nat.beq pc 20 then some (.aload_n 0, 1, 0, 0, 0, mj_u) else none)) else
      (bif Nat.blt pc 24 then (bif Nat.beq pc 21 then some (.getfield 10, 3, 8, 0, 266, .null) else none) else
       (bif Nat.beq pc 24 then some (.invokespecial 18, 3, 2, 0, 93, mj_u) else none))))) else
   (bif Nat.blt pc 42 then (bif Nat.blt pc 34 then (bif Nat.blt pc 30 then (bif Nat.beq pc 27 then some (.putfield 21, 3, 8, 1, 267, .null) else none) else
      (bif Nat.blt pc 31 then (bif Nat.beq pc 30 then some (.aload_n 0, 1, 0, 0, 0, mj_u) else none) else
       (bif Nat.beq pc 31 then some (.new 25, 3, 3, 141, 140, mj_u) else none))) else
     (bif Nat.blt pc 36 then (bif Nat.blt pc 35 then (bif Nat.beq pc 34 then some (.dup, 1, 0, 0, 0, mj_u) else none) else
       (bif Nat.beq pc 35 then some (.aload_n 0, 1, 0, 0, 0, mj_u) else none)) else
      (bif Nat.blt pc 39 then (bif Nat.beq pc 36 then some (.getfield 10, 3, 8, 0, 266, .null) else none) else
       (bif Nat.beq pc 39 then some (.invokespecial 27, 3, 3, 0, 142, mj_u) else none)))) else
    (bif Nat.blt pc 49 then (bif Nat.blt pc 45 then (bif Nat.beq pc 42 then some (.putfield 28, 3, 8, 2, 268, .null) else none) else
      (bif Nat.blt pc 46 then (bif Nat.beq pc 45 then some (.aload_n 0, 1, 0, 0, 0, mj_u) else none) else
       (bif Nat.beq pc 46 then some (.new 32, 3, 0, 188, 187, mj_u) else none))) else
     (bif Nat.blt pc 51 then (bif Nat.blt pc 50 then (bif Nat.beq pc 49 then some (.dup, 1, 0, 0, 0, mj_u) else none) else
       (bif Nat.beq pc 50 then some (.aload_n 0, 1, 0, 0, 0, mj_u) else none)) else
      (bif Nat.blt pc 54 then (bif Nat.beq pc 51 then some (.getfield 10, 3, 8, 0, 266, .null) else none) else
       (bif Nat.beq pc 54 then some (.invokespecial 34, 3, 6, 0, 189, mj_u) else none)))))) else
  (bif Nat.blt pc 87 then (bif Nat.blt pc 72 then (bif Nat.blt pc 64 then (bif Nat.blt pc 60 then (bif Nat.beq pc 57 then some (.putfield 35, 3, 8, 3, 269, .null) else none) else
      (bif Nat.blt pc 61 then (bif Nat.beq pc 60 then some (.aload_n 0, 1, 0, 0, 0, mj_u) else none) else
       (bif Nat.beq pc 61 then some (.new 39, 3, 5, 215, 214, mj_u) else none))) else
     (bif Nat.blt pc 66 then (bif Nat.blt pc 65 then (bif Nat.beq pc 64 then some (.dup, 1, 0, 0, 0, mj_u) else none) else
       (bif Nat.beq pc 65 then some (.aload_n 0, 1, 0, 0, 0, mj_u) else none)) else
      (bif Nat.blt pc 69 then (bif Nat.beq pc 66 then some (.getfield 10, 3, 8, 0, 266, .null) else none) else
       (bif Nat.beq pc 69 then some (.invokespecial 41, 3, 7, 0, 216, mj_u) else none)))) else
    (bif Nat.blt pc 79 then (bif Nat.blt pc 75 then (bif Nat.beq pc 72 then some (.putfield 42, 3, 8, 4, 270, .null) else none) else
      (bif Nat.blt pc 76 then (bif Nat.beq pc 75 then some (.aload_n 0, 1, 0, 0, 0, mj_u) else none) else
       (bif Nat.beq pc 76 then some (.new 46, 3, 7, 225, 224, mj_u) else none))) else
     (bif Nat.blt pc 81 then (bif Nat.blt pc 80 then (bif Nat.beq pc 79 then some (.dup, 1, 0, 0, 0, mj_u) else none) else
       (bif Nat.beq pc 80 then some (.aload_n 0, 1, 0, 0, 0, mj_u) else none)) else
      (bif Nat.blt pc 84 then (bif Nat.beq pc 81 then some (.getfield 10, 3, 8, 0, 266, .null) else none) else
       (bif Nat.beq pc 84 then some (.invokespecial 48, 3, 8, 0, 226, mj_u) else none))))) else
   (bif Nat.blt pc 101 then (bif Nat.blt pc 94 then (bif Nat.blt pc 90 then (bif Nat.beq pc 87 then some (.putfield 49, 3, 8, 5, 271, .null) else none) else
      (bif Nat.blt pc 91 then (bif Nat.beq pc 90 then some (.aload_n 0, 1, 0, 0, 0, mj_u) else none) else
       (bif Nat.beq pc 91 then some (.sipush 256, 3, 0, 0, 0, .int 256) else none))) else
     (bif Nat.blt pc 99 then (bif Nat.blt pc 96 then (bif Nat.beq pc 94 then some (.newarray .int, 2, 0, 0, 0, mj_u) else none) else
       (bif Nat.beq pc 96 then some (.putfield 53, 3, 8, 6, 272, .null) else none)) else
      (bif Nat.blt pc 100 then (bif Nat.beq pc 99 then some (.aload_n 0, 1, 0, 0, 0, mj_u) else none) else
       (bif Nat.beq pc 100 then some (.iconst 5, 1, 0, 0, 0, .int 5) else none)))) else
    (bif Nat.blt pc 108 then (bif Nat.blt pc 104 then (bif Nat.beq pc 101 then some (.putfield 57, 3, 8, 7, 273, .int 0) else none) else
      (bif Nat.blt pc 105 then (bif Nat.beq pc 104 then some (.aload_n 0, 1, 0, 0, 0, mj_u) else none) else
       (bif Nat.beq pc 105 then some (.getfield 10, 3, 8, 0, 266, .null) else none))) else
     (bif Nat.blt pc 112 then (bif Nat.blt pc 110 then (bif Nat.beq pc 108 then some (.bipush 12, 2, 0, 0, 0, .int 12) else none) else
       (bif Nat.beq pc 110 then some (.bipush 12, 2, 0, 0, 0, .int 12) else none)) else
      (bif Nat.blt pc 115 then (bif Nat.beq pc 112 then some (.invokevirtual 61, 3, 9, 0, 243, mj_u) else none) else
       (bif Nat.beq pc 115 then some (.return_, 1, 0, 0, 0, mj_u) else none))))))
def m_W_init : mj_M := (0, prog_1_method_1_code, 1, (Option.none : Option Jvm.ClassFile.FieldType), 8, 0, 47, 46, 0, 26, 116, k_W_init)
/-- WatershedMap$Land.<init>()V -/
def k_Land_init : Nat → Option mj_I := fun pc =>
  bif Nat.blt pc 14 then (bif Nat.blt pc 5 then (bif Nat.blt pc 1 then (bif Nat.beq pc 0 then some (.aload_n 0, 1, 0, 0, 0, mj_u) else none) else
    (bif Nat.blt pc 4 then (bif Nat.beq pc 1 then some (.invokespecial 3, 3, 1000, 0, 56, mj_u) else none) else
     (bif Nat.beq pc 4 then some (.aload_n 0, 1, 0, 0, 0, mj_u) else none))) else
   (bif Nat.blt pc 10 then (bif Nat.blt pc 8 then (bif Nat.beq pc 5 then some (.sipush 256, 3, 0, 0, 0, .int 256) else none) else
     (bif Nat.beq pc 8 then some (.newarray .int, 2, 0, 0, 0, mj_u) else none)) else
    (bif Nat.blt pc 13 then (bif Nat.beq pc 10 then some (.putfield 9, 3, 4, 0, 57, .null) else none) else
     (bif Nat.beq pc 13 then some (.aload_n 0, 1, 0, 0, 0, mj_u) else none)))) else
  (bif Nat.blt pc 23 then (bif Nat.blt pc 19 then (bif Nat.blt pc 17 then (bif Nat.beq pc 14 then some (.sipush 256, 3, 0, 0, 0, .int 256) else none) else
     (bif Nat.beq pc 17 then some (.newarray .int, 2, 0, 0, 0, mj_u) else none)) else
    (bif Nat.blt pc 22 then (bif Nat.beq pc 19 then some (.putfield 15, 3, 4, 1, 63, .null) else none) else
     (bif Nat.beq pc 22 then some (.aload_n 0, 1, 0, 0, 0, mj_u) else none))) else
   (bif Nat.blt pc 28 then (bif Nat.blt pc 26 then (bif Nat.beq pc 23 then some (.sipush 2048, 3, 0, 0, 0, .int 2048) else none) else
     (bif Nat.beq pc 26 then some (.newarray .int, 2, 0, 0, 0, mj_u) else none)) else
    (bif Nat.blt pc 31 then (bif Nat.beq pc 28 then some (.putfield 18, 3, 4, 2, 64, .null) else none) else
     (bif Nat.beq pc 31 then some (.return_, 1, 0, 0, 0, mj_u) else none))))
def m_Land_init : mj_M := (1, prog_6_method_1_code, 1, (Option.none : Option Jvm.ClassFile.FieldType), 4, 0, 55, 54, 0, 27, 32, k_Land_init)
/-- WatershedMap$Streams.<init>(LWatershedMap$Land;)V -/
def k_Streams_init : Nat → Option mj_I := fun pc =>
  bif Nat.blt pc 50 then (bif Nat.blt pc 23 then (bif Nat.blt pc 10 then (bif Nat.blt pc 4 then (bif Nat.blt pc 1 then (bif Nat.beq pc 0 then some (.aload_n 0, 1, 0, 0, 0, mj_u) else none) else
      (bif Nat.beq pc 1 then some (.invokespecial 3, 3, 1000, 0, 96, mj_u) else none)) else
     (bif Nat.blt pc 5 then (bif Nat.beq pc 4 then some (.aload_n 0, 1, 0, 0, 0, mj_u) else none) else
      (bif Nat.blt pc 8 then (bif Nat.beq pc 5 then some (.sipush 256, 3, 0, 0, 0, .int 256) else none) else
       (bif Nat.beq pc 8 then some (.newarray .int, 2, 0, 0, 0, mj_u) else none)))) else
    (bif Nat.blt pc 17 then (bif Nat.blt pc 13 then (bif Nat.beq pc 10 then some (.putfield 9, 3, 6, 1, 98, .null) else none) else
      (bif Nat.blt pc 14 then (bif Nat.beq pc 13 then some (.aload_n 0, 1, 0, 0, 0, mj_u) else none) else
       (bif Nat.beq pc 14 then some (.sipush 256, 3, 0, 0, 0, .int 256) else none))) else
     (bif Nat.blt pc 19 then (bif Nat.beq pc 17 then some (.newarray .int, 2, 0, 0, 0, mj_u) else none) else
      (bif Nat.blt pc 22 then (bif Nat.beq pc 19 then some (.putfield 15, 3, 6, 2, 99, .null) else none) else
       (bif Nat.beq pc 22 then some (.aload_n 0, 1, 0, 0, 0, mj_u) else none))))) else
   (bif Nat.blt pc 37 then (bif Nat.blt pc 31 then (bif Nat.blt pc 26 then (bif Nat.beq pc 23 then some (.sipush 256, 3, 0, 0, 0, .int 256) else none) else
      (bif Nat.blt pc 28 then (bif Nat.beq pc 26 then some (.newarray .int, 2, 0, 0, 0, mj_u) else none) else
       (bif Nat.beq pc 28 then some (.putfield 18, 3, 6, 3, 101, .null) else none))) else
     (bif Nat.blt pc 32 then (bif Nat.beq pc 31 then some (.aload_n 0, 1, 0, 0, 0, mj_u) else none) else
      (bif Nat.blt pc 35 then (bif Nat.beq pc 32 then some (.sipush 256, 3, 0, 0, 0, .int 256) else none) else
       (bif Nat.beq pc 35 then some (.newarray .int, 2, 0, 0, 0, mj_u) else none)))) else
    (bif Nat.blt pc 44 then (bif Nat.blt pc 40 then (bif Nat.beq pc 37 then some (.putfield 21, 3, 6, 4, 103, .null) else none) else
      (bif Nat.blt pc 41 then (bif Nat.beq pc 40 then some (.aload_n 0, 1, 0, 0, 0, mj_u) else none) else
       (bif Nat.beq pc 41 then some (.sipush 256, 3, 0, 0, 0, .int 256) else none))) else
     (bif Nat.blt pc 46 then (bif Nat.beq pc 44 then some (.newarray .int, 2, 0, 0, 0, mj_u) else none) else
      (bif Nat.blt pc 49 then (bif Nat.beq pc 46 then some (.putfield 24, 3, 6, 5, 105, .null) else none) else
       (bif Nat.beq pc 49 then some (.aload_n 0, 1, 0, 0, 0, mj_u) else none)))))) else
  (bif Nat.blt pc 76 then (bif Nat.blt pc 62 then (bif Nat.blt pc 55 then (bif Nat.blt pc 53 then (bif Nat.beq pc 50 then some (.sipush 256, 3, 0, 0, 0, .int 256) else none) else
      (bif Nat.beq pc 53 then some (.newarray .int, 2, 0, 0, 0, mj_u) else none)) else
     (bif Nat.blt pc 58 then (bif Nat.beq pc 55 then some (.putfield 27, 3, 6, 6, 106, .null) else none) else
      (bif Nat.blt pc 59 then (bif Nat.beq pc 58 then some (.aload_n 0, 1, 0, 0, 0, mj_u) else none) else
       (bif Nat.beq pc 59 then some (.sipush 256, 3, 0, 0, 0, .int 256) else none)))) else
    (bif Nat.blt pc 68 then (bif Nat.blt pc 64 then (bif Nat.beq pc 62 then some (.newarray .int, 2, 0, 0, 0, mj_u) else none) else
      (bif Nat.blt pc 67 then (bif Nat.beq pc 64 then some (.putfield 30, 3, 6, 7, 108, .null) else none) else
       (bif Nat.beq pc 67 then some (.aload_n 0, 1, 0, 0, 0, mj_u) else none))) else
     (bif Nat.blt pc 71 then (bif Nat.beq pc 68 then some (.sipush 256, 3, 0, 0, 0, .int 256) else none) else
      (bif Nat.blt pc 73 then (bif Nat.beq pc 71 then some (.newarray .int, 2, 0, 0, 0, mj_u) else none) else
       (bif Nat.beq pc 73 then some (.putfield 33, 3, 6, 8, 110, .null) else none))))) else
   (bif Nat.blt pc 89 then (bif Nat.blt pc 82 then (bif Nat.blt pc 77 then (bif Nat.beq pc 76 then some (.aload_n 0, 1, 0, 0, 0, mj_u) else none) else
      (bif Nat.blt pc 80 then (bif Nat.beq pc 77 then some (.sipush 256, 3, 0, 0, 0, .int 256) else none) else
       (bif Nat.beq pc 80 then some (.newarray .boolean, 2, 0, 0, 0, mj_u) else none))) else
     (bif Nat.blt pc 85 then (bif Nat.beq pc 82 then some (.putfield 36, 3, 6, 9, 111, .null) else none) else
      (bif Nat.blt pc 86 then (bif Nat.beq pc 85 then some (.aload_n 0, 1, 0, 0, 0, mj_u) else none) else
       (bif Nat.beq pc 86 then some (.sipush 256, 3, 0, 0, 0, .int 256) else none)))) else
    (bif Nat.blt pc 95 then (bif Nat.blt pc 91 then (bif Nat.beq pc 89 then some (.newarray .int, 2, 0, 0, 0, mj_u) else none) else
      (bif Nat.blt pc 94 then (bif Nat.beq pc 91 then some (.putfield 40, 3, 6, 10, 112, .null) else none) else
       (bif Nat.beq pc 94 then some (.aload_n 0, 1, 0, 0, 0, mj_u) else none))) else
     (bif Nat.blt pc 96 then (bif Nat.beq pc 95 then some (.aload_n 1, 1, 1, 0, 0, mj_u) else none) else
      (bif Nat.blt pc 99 then (bif Nat.beq pc 96 then some (.putfield 43, 3, 6, 0, 97, .null) else none) else
       (bif Nat.beq pc 99 then some (.return_, 1, 0, 0, 0, mj_u) else none))))))
def m_Streams_init : mj_M := (2, prog_8_method_1_code, 2, (Option.none : Option Jvm.ClassFile.FieldType), 6, 1, 95, 94, 0, 28, 100, k_Streams_init)
/-- WatershedMap$Hollows.<init>(LWatershedMap$Land;)V -/
def k_Hollows_init : Nat → Option mj_I := fun pc =>
  bif Nat.blt pc 21 then (bif Nat.blt pc 10 then (bif Nat.blt pc 4 then (bif Nat.blt pc 1 then (bif Nat.beq pc 0 then some (.aload_n 0, 1, 0, 0, 0, mj_u) else none) else
     (bif Nat.beq pc 1 then some (.invokespecial 3, 3, 1000, 0, 145, mj_u) else none)) else
    (bif Nat.blt pc 5 then (bif Nat.beq pc 4 then some (.aload_n 0, 1, 0, 0, 0, mj_u) else none) else
     (bif Nat.blt pc 8 then (bif Nat.beq pc 5 then some (.sipush 256, 3, 0, 0, 0, .int 256) else none) else
      (bif Nat.beq pc 8 then some (.newarray .int, 2, 0, 0, 0, mj_u) else none)))) else
   (bif Nat.blt pc 14 then (bif Nat.blt pc 13 then (bif Nat.beq pc 10 then some (.putfield 9, 3, 3, 1, 170, .null) else none) else
     (bif Nat.beq pc 13 then some (.aload_n 0, 1, 0, 0, 0, mj_u) else none)) else
    (bif Nat.blt pc 17 then (bif Nat.beq pc 14 then some (.new 15, 3, 1, 147, 146, mj_u) else none) else
     (bif Nat.blt pc 18 then (bif Nat.beq pc 17 then some (.dup, 1, 0, 0, 0, mj_u) else none) else
      (bif Nat.beq pc 18 then some (.invokespecial 17, 3, 4, 1, 148, mj_u) else none))))) else
  (bif Nat.blt pc 32 then (bif Nat.blt pc 25 then (bif Nat.blt pc 24 then (bif Nat.beq pc 21 then some (.putfield 18, 3, 3, 2, 172, .null) else none) else
     (bif Nat.beq pc 24 then some (.aload_n 0, 1, 0, 0, 0, mj_u) else none)) else
    (bif Nat.blt pc 28 then (bif Nat.beq pc 25 then some (.new 22, 3, 2, 160, 159, mj_u) else none) else
     (bif Nat.blt pc 29 then (bif Nat.beq pc 28 then some (.dup, 1, 0, 0, 0, mj_u) else none) else
      (bif Nat.beq pc 29 then some (.invokespecial 24, 3, 5, 1, 161, mj_u) else none)))) else
   (bif Nat.blt pc 36 then (bif Nat.blt pc 35 then (bif Nat.beq pc 32 then some (.putfield 25, 3, 3, 3, 173, .null) else none) else
     (bif Nat.beq pc 35 then some (.aload_n 0, 1, 0, 0, 0, mj_u) else none)) else
    (bif Nat.blt pc 37 then (bif Nat.beq pc 36 then some (.aload_n 1, 1, 1, 0, 0, mj_u) else none) else
     (bif Nat.blt pc 40 then (bif Nat.beq pc 37 then some (.putfield 29, 3, 3, 0, 169, .null) else none) else
      (bif Nat.beq pc 40 then some (.return_, 1, 0, 0, 0, mj_u) else none)))))
def m_Hollows_init : mj_M := (3, prog_5_method_1_code, 2, (Option.none : Option Jvm.ClassFile.FieldType), 3, 1, 144, 143, 0, 29, 41, k_Hollows_init)
/-- WatershedMap$Frontier.<init>()V -/
def k_Frontier_init : Nat → Option mj_I := fun pc =>
  bif Nat.blt pc 5 then (bif Nat.blt pc 1 then (bif Nat.beq pc 0 then some (.aload_n 0, 1, 0, 0, 0, mj_u) else none) else
   (bif Nat.blt pc 4 then (bif Nat.beq pc 1 then some (.invokespecial 3, 3, 1000, 0, 151, mj_u) else none) else
    (bif Nat.beq pc 4 then some (.aload_n 0, 1, 0, 0, 0, mj_u) else none))) else
  (bif Nat.blt pc 10 then (bif Nat.blt pc 8 then (bif Nat.beq pc 5 then some (.sipush 256, 3, 0, 0, 0, .int 256) else none) else
    (bif Nat.beq pc 8 then some (.newarray .int, 2, 0, 0, 0, mj_u) else none)) else
   (bif Nat.blt pc 13 then (bif Nat.beq pc 10 then some (.putfield 9, 3, 1, 0, 152, .null) else none) else
    (bif Nat.beq pc 13 then some (.return_, 1, 0, 0, 0, mj_u) else none)))
def m_Frontier_init : mj_M := (4, prog_3_method_1_code, 1, (Option.none : Option Jvm.ClassFile.FieldType), 1, 0, 150, 149, 0, 30, 14, k_Frontier_init)
/-- WatershedMap$Groups.<init>()V -/
def k_Groups_init : Nat → Option mj_I := fun pc =>
  bif Nat.blt pc 5 then (bif Nat.blt pc 1 then (bif Nat.beq pc 0 then some (.aload_n 0, 1, 0, 0, 0, mj_u) else none) else
   (bif Nat.blt pc 4 then (bif Nat.beq pc 1 then some (.invokespecial 3, 3, 1000, 0, 164, mj_u) else none) else
    (bif Nat.beq pc 4 then some (.aload_n 0, 1, 0, 0, 0, mj_u) else none))) else
  (bif Nat.blt pc 10 then (bif Nat.blt pc 8 then (bif Nat.beq pc 5 then some (.sipush 512, 3, 0, 0, 0, .int 512) else none) else
    (bif Nat.beq pc 8 then some (.newarray .int, 2, 0, 0, 0, mj_u) else none)) else
   (bif Nat.blt pc 13 then (bif Nat.beq pc 10 then some (.putfield 9, 3, 2, 0, 165, .null) else none) else
    (bif Nat.beq pc 13 then some (.return_, 1, 0, 0, 0, mj_u) else none)))
def m_Groups_init : mj_M := (5, prog_4_method_1_code, 1, (Option.none : Option Jvm.ClassFile.FieldType), 2, 0, 163, 162, 0, 31, 14, k_Groups_init)
/-- WatershedMap$Contours.<init>(LWatershedMap$Land;)V -/
def k_Contours_init : Nat → Option mj_I := fun pc =>
  bif Nat.blt pc 14 then (bif Nat.blt pc 5 then (bif Nat.blt pc 1 then (bif Nat.beq pc 0 then some (.aload_n 0, 1, 0, 0, 0, mj_u) else none) else
    (bif Nat.blt pc 4 then (bif Nat.beq pc 1 then some (.invokespecial 3, 3, 1000, 0, 192, mj_u) else none) else
     (bif Nat.beq pc 4 then some (.aload_n 0, 1, 0, 0, 0, mj_u) else none))) else
   (bif Nat.blt pc 10 then (bif Nat.blt pc 8 then (bif Nat.beq pc 5 then some (.sipush 512, 3, 0, 0, 0, .int 512) else none) else
     (bif Nat.beq pc 8 then some (.newarray .int, 2, 0, 0, 0, mj_u) else none)) else
    (bif Nat.blt pc 13 then (bif Nat.beq pc 10 then some (.putfield 9, 3, 0, 1, 196, .null) else none) else
     (bif Nat.beq pc 13 then some (.aload_n 0, 1, 0, 0, 0, mj_u) else none)))) else
  (bif Nat.blt pc 24 then (bif Nat.blt pc 18 then (bif Nat.blt pc 17 then (bif Nat.beq pc 14 then some (.new 15, 3, 2, 160, 193, mj_u) else none) else
     (bif Nat.beq pc 17 then some (.dup, 1, 0, 0, 0, mj_u) else none)) else
    (bif Nat.blt pc 21 then (bif Nat.beq pc 18 then some (.invokespecial 17, 3, 5, 1, 194, mj_u) else none) else
     (bif Nat.beq pc 21 then some (.putfield 18, 3, 0, 2, 197, .null) else none))) else
   (bif Nat.blt pc 26 then (bif Nat.blt pc 25 then (bif Nat.beq pc 24 then some (.aload_n 0, 1, 0, 0, 0, mj_u) else none) else
     (bif Nat.beq pc 25 then some (.aload_n 1, 1, 1, 0, 0, mj_u) else none)) else
    (bif Nat.blt pc 29 then (bif Nat.beq pc 26 then some (.putfield 22, 3, 0, 0, 195, .null) else none) else
     (bif Nat.beq pc 29 then some (.return_, 1, 0, 0, 0, mj_u) else none))))
def m_Contours_init : mj_M := (6, prog_2_method_1_code, 2, (Option.none : Option Jvm.ClassFile.FieldType), 0, 1, 191, 190, 0, 32, 30, k_Contours_init)
/-- WatershedMap$Sight.<init>(LWatershedMap$Land;)V -/
def k_Sight_init : Nat → Option mj_I := fun pc =>
  bif Nat.blt pc 5 then (bif Nat.blt pc 1 then (bif Nat.beq pc 0 then some (.aload_n 0, 1, 0, 0, 0, mj_u) else none) else
   (bif Nat.blt pc 4 then (bif Nat.beq pc 1 then some (.invokespecial 1, 3, 1000, 0, 219, mj_u) else none) else
    (bif Nat.beq pc 4 then some (.aload_n 0, 1, 0, 0, 0, mj_u) else none))) else
  (bif Nat.blt pc 6 then (bif Nat.beq pc 5 then some (.aload_n 1, 1, 1, 0, 0, mj_u) else none) else
   (bif Nat.blt pc 9 then (bif Nat.beq pc 6 then some (.putfield 7, 3, 5, 0, 220, .null) else none) else
    (bif Nat.beq pc 9 then some (.return_, 1, 0, 0, 0, mj_u) else none)))
def m_Sight_init : mj_M := (7, prog_7_method_1_code, 2, (Option.none : Option Jvm.ClassFile.FieldType), 5, 1, 218, 217, 0, 33, 10, k_Sight_init)
/-- WatershedMap$Ways.<init>(LWatershedMap$Land;)V -/
def k_Ways_init : Nat → Option mj_I := fun pc =>
  bif Nat.blt pc 14 then (bif Nat.blt pc 5 then (bif Nat.blt pc 1 then (bif Nat.beq pc 0 then some (.aload_n 0, 1, 0, 0, 0, mj_u) else none) else
    (bif Nat.blt pc 4 then (bif Nat.beq pc 1 then some (.invokespecial 3, 3, 1000, 0, 229, mj_u) else none) else
     (bif Nat.beq pc 4 then some (.aload_n 0, 1, 0, 0, 0, mj_u) else none))) else
   (bif Nat.blt pc 10 then (bif Nat.blt pc 8 then (bif Nat.beq pc 5 then some (.sipush 256, 3, 0, 0, 0, .int 256) else none) else
     (bif Nat.beq pc 8 then some (.newarray .int, 2, 0, 0, 0, mj_u) else none)) else
    (bif Nat.blt pc 13 then (bif Nat.beq pc 10 then some (.putfield 9, 3, 7, 1, 233, .null) else none) else
     (bif Nat.beq pc 13 then some (.aload_n 0, 1, 0, 0, 0, mj_u) else none)))) else
  (bif Nat.blt pc 24 then (bif Nat.blt pc 18 then (bif Nat.blt pc 17 then (bif Nat.beq pc 14 then some (.new 15, 3, 1, 147, 230, mj_u) else none) else
     (bif Nat.beq pc 17 then some (.dup, 1, 0, 0, 0, mj_u) else none)) else
    (bif Nat.blt pc 21 then (bif Nat.beq pc 18 then some (.invokespecial 17, 3, 4, 1, 231, mj_u) else none) else
     (bif Nat.beq pc 21 then some (.putfield 18, 3, 7, 2, 235, .null) else none))) else
   (bif Nat.blt pc 26 then (bif Nat.blt pc 25 then (bif Nat.beq pc 24 then some (.aload_n 0, 1, 0, 0, 0, mj_u) else none) else
     (bif Nat.beq pc 25 then some (.aload_n 1, 1, 1, 0, 0, mj_u) else none)) else
    (bif Nat.blt pc 29 then (bif Nat.beq pc 26 then some (.putfield 22, 3, 7, 0, 232, .null) else none) else
     (bif Nat.beq pc 29 then some (.return_, 1, 0, 0, 0, mj_u) else none))))
def m_Ways_init : mj_M := (8, prog_9_method_1_code, 2, (Option.none : Option Jvm.ClassFile.FieldType), 7, 1, 228, 227, 0, 34, 30, k_Ways_init)
/-- WatershedMap$Land.layOut(II)V -/
def k_Land_layOut : Nat → Option mj_I := fun pc =>
  bif Nat.blt pc 28 then (bif Nat.blt pc 13 then (bif Nat.blt pc 6 then (bif Nat.blt pc 2 then (bif Nat.blt pc 1 then (bif Nat.beq pc 0 then some (.aload_n 0, 1, 0, 0, 0, mj_u) else none) else
      (bif Nat.beq pc 1 then some (.iload_n 1, 1, 1, 0, 0, mj_u) else none)) else
     (bif Nat.blt pc 5 then (bif Nat.beq pc 2 then some (.putfield 21, 3, 4, 3, 65, .int 0) else none) else
      (bif Nat.beq pc 5 then some (.aload_n 0, 1, 0, 0, 0, mj_u) else none))) else
    (bif Nat.blt pc 10 then (bif Nat.blt pc 7 then (bif Nat.beq pc 6 then some (.iload_n 2, 1, 2, 0, 0, mj_u) else none) else
      (bif Nat.beq pc 7 then some (.putfield 25, 3, 4, 4, 69, .int 0) else none)) else
     (bif Nat.blt pc 11 then (bif Nat.beq pc 10 then some (.aload_n 0, 1, 0, 0, 0, mj_u) else none) else
      (bif Nat.blt pc 12 then (bif Nat.beq pc 11 then some (.iload_n 1, 1, 1, 0, 0, mj_u) else none) else
       (bif Nat.beq pc 12 then some (.iload_n 2, 1, 2, 0, 0, mj_u) else none))))) else
   (bif Nat.blt pc 21 then (bif Nat.blt pc 17 then (bif Nat.blt pc 14 then (bif Nat.beq pc 13 then some (.imul, 1, 0, 0, 0, mj_u) else none) else
      (bif Nat.beq pc 14 then some (.putfield 28, 3, 4, 5, 73, .int 0) else none)) else
     (bif Nat.blt pc 18 then (bif Nat.beq pc 17 then some (.aload_n 0, 1, 0, 0, 0, mj_u) else none) else
      (bif Nat.beq pc 18 then some (.getfield 9, 3, 4, 0, 57, .null) else none))) else
    (bif Nat.blt pc 25 then (bif Nat.blt pc 22 then (bif Nat.beq pc 21 then some (.iconst 0, 1, 0, 0, 0, .int 0) else none) else
      (bif Nat.beq pc 22 then some (.invokestatic 31, 3, 10, 0, 247, mj_u) else none)) else
     (bif Nat.blt pc 26 then (bif Nat.beq pc 25 then some (.iconst 0, 1, 0, 0, 0, .int 0) else none) else
      (bif Nat.blt pc 27 then (bif Nat.beq pc 26 then some (.istore_n 3, 1, 3, 0, 0, mj_u) else none) else
       (bif Nat.beq pc 27 then some (.iload_n 3, 1, 3, 0, 0, mj_u) else none)))))) else
  (bif Nat.blt pc 47 then (bif Nat.blt pc 36 then (bif Nat.blt pc 32 then (bif Nat.blt pc 29 then (bif Nat.beq pc 28 then some (.aload_n 0, 1, 0, 0, 0, mj_u) else none) else
      (bif Nat.beq pc 29 then some (.getfield 25, 3, 4, 4, 69, .int 0) else none)) else
     (bif Nat.blt pc 35 then (bif Nat.beq pc 32 then some (.if_icmp .ge 34, 3, 66, 0, 0, mj_u) else none) else
      (bif Nat.beq pc 35 then some (.iconst 0, 1, 0, 0, 0, .int 0) else none))) else
    (bif Nat.blt pc 40 then (bif Nat.blt pc 38 then (bif Nat.beq pc 36 then some (.istore 4, 2, 4, 0, 0, mj_u) else none) else
      (bif Nat.beq pc 38 then some (.iload 4, 2, 4, 0, 0, mj_u) else none)) else
     (bif Nat.blt pc 41 then (bif Nat.beq pc 40 then some (.aload_n 0, 1, 0, 0, 0, mj_u) else none) else
      (bif Nat.blt pc 44 then (bif Nat.beq pc 41 then some (.getfield 21, 3, 4, 3, 65, .int 0) else none) else
       (bif Nat.beq pc 44 then some (.if_icmp .ge 16, 3, 60, 0, 0, mj_u) else none))))) else
   (bif Nat.blt pc 54 then (bif Nat.blt pc 50 then (bif Nat.blt pc 48 then (bif Nat.beq pc 47 then some (.aload_n 0, 1, 0, 0, 0, mj_u) else none) else
      (bif Nat.beq pc 48 then some (.iload 4, 2, 4, 0, 0, mj_u) else none)) else
     (bif Nat.blt pc 51 then (bif Nat.beq pc 50 then some (.iload_n 3, 1, 3, 0, 0, mj_u) else none) else
      (bif Nat.beq pc 51 then some (.invokevirtual 37, 3, 11, 0, 250, mj_u) else none))) else
    (bif Nat.blt pc 60 then (bif Nat.blt pc 57 then (bif Nat.beq pc 54 then some (.iinc 4 1, 3, 4, 0, 0, .int 1) else none) else
      (bif Nat.beq pc 57 then some (.goto (-19), 3, 38, 0, 0, mj_u) else none)) else
     (bif Nat.blt pc 63 then (bif Nat.beq pc 60 then some (.iinc 3 1, 3, 3, 0, 0, .int 1) else none) else
      (bif Nat.blt pc 66 then (bif Nat.beq pc 63 then some (.goto (-36), 3, 27, 0, 0, mj_u) else none) else
       (bif Nat.beq pc 66 then some (.return_, 1, 0, 0, 0, mj_u) else none))))))
def m_Land_layOut : mj_M := (9, prog_6_method_2_code, 5, (Option.none : Option Jvm.ClassFile.FieldType), 4, 2, 246, 244, 245, 27, 67, k_Land_layOut)
/-- java/util/Arrays.fill([II)V static -/
def k_Arr_fill : Nat → Option mj_I := fun pc =>
  bif Nat.blt pc 7 then (bif Nat.blt pc 3 then (bif Nat.blt pc 1 then (bif Nat.beq pc 0 then some (.iconst 0, 1, 0, 0, 0, .int 0) else none) else
    (bif Nat.blt pc 2 then (bif Nat.beq pc 1 then some (.istore_n 2, 1, 2, 0, 0, mj_u) else none) else
     (bif Nat.beq pc 2 then some (.aload_n 0, 1, 0, 0, 0, mj_u) else none))) else
   (bif Nat.blt pc 5 then (bif Nat.blt pc 4 then (bif Nat.beq pc 3 then some (.arraylength, 1, 0, 0, 0, mj_u) else none) else
     (bif Nat.beq pc 4 then some (.istore_n 3, 1, 3, 0, 0, mj_u) else none)) else
    (bif Nat.blt pc 6 then (bif Nat.beq pc 5 then some (.iload_n 2, 1, 2, 0, 0, mj_u) else none) else
     (bif Nat.beq pc 6 then some (.iload_n 3, 1, 3, 0, 0, mj_u) else none)))) else
  (bif Nat.blt pc 13 then (bif Nat.blt pc 11 then (bif Nat.blt pc 10 then (bif Nat.beq pc 7 then some (.if_icmp .ge 13, 3, 20, 0, 0, mj_u) else none) else
     (bif Nat.beq pc 10 then some (.aload_n 0, 1, 0, 0, 0, mj_u) else none)) else
    (bif Nat.blt pc 12 then (bif Nat.beq pc 11 then some (.iload_n 2, 1, 2, 0, 0, mj_u) else none) else
     (bif Nat.beq pc 12 then some (.iload_n 1, 1, 1, 0, 0, mj_u) else none))) else
   (bif Nat.blt pc 17 then (bif Nat.blt pc 14 then (bif Nat.beq pc 13 then some (.iastore, 1, 0, 0, 0, mj_u) else none) else
     (bif Nat.beq pc 14 then some (.iinc 2 1, 3, 2, 0, 0, .int 1) else none)) else
    (bif Nat.blt pc 20 then (bif Nat.beq pc 17 then some (.goto (-12), 3, 5, 0, 0, mj_u) else none) else
     (bif Nat.beq pc 20 then some (.return_, 1, 0, 0, 0, mj_u) else none))))
def m_Arr_fill : mj_M := (10, prog_21_method_103_code, 4, (Option.none : Option Jvm.ClassFile.FieldType), 10, 2, 249, 248, 0, 35, 21, k_Arr_fill)
/-- WatershedMap$Land.findNeighbours(II)V -/
def k_Land_findNeighbours : Nat → Option mj_I := fun pc =>
  bif Nat.blt pc 32 then (bif Nat.blt pc 15 then (bif Nat.blt pc 8 then (bif Nat.blt pc 2 then (bif Nat.blt pc 1 then (bif Nat.beq pc 0 then some (.iconst 0, 1, 0, 0, 0, .int 0) else none) else
      (bif Nat.beq pc 1 then some (.istore_n 3, 1, 3, 0, 0, mj_u) else none)) else
     (bif Nat.blt pc 3 then (bif Nat.beq pc 2 then some (.iload_n 3, 1, 3, 0, 0, mj_u) else none) else
      (bif Nat.blt pc 5 then (bif Nat.beq pc 3 then some (.bipush 8, 2, 0, 0, 0, .int 8) else none) else
       (bif Nat.beq pc 5 then some (.if_icmp .ge 66, 3, 71, 0, 0, mj_u) else none)))) else
    (bif Nat.blt pc 12 then (bif Nat.blt pc 9 then (bif Nat.beq pc 8 then some (.iload_n 1, 1, 1, 0, 0, mj_u) else none) else
      (bif Nat.beq pc 9 then some (.getstatic 41, 3, 0, 1, 254, mj_u) else none)) else
     (bif Nat.blt pc 13 then (bif Nat.beq pc 12 then some (.iload_n 3, 1, 3, 0, 0, mj_u) else none) else
      (bif Nat.blt pc 14 then (bif Nat.beq pc 13 then some (.iaload, 1, 0, 0, 0, mj_u) else none) else
       (bif Nat.beq pc 14 then some (.iadd, 1, 0, 0, 0, mj_u) else none))))) else
   (bif Nat.blt pc 23 then (bif Nat.blt pc 18 then (bif Nat.blt pc 17 then (bif Nat.beq pc 15 then some (.istore 4, 2, 4, 0, 0, mj_u) else none) else
      (bif Nat.beq pc 17 then some (.iload_n 2, 1, 2, 0, 0, mj_u) else none)) else
     (bif Nat.blt pc 21 then (bif Nat.beq pc 18 then some (.getstatic 44, 3, 1, 1, 256, mj_u) else none) else
      (bif Nat.blt pc 22 then (bif Nat.beq pc 21 then some (.iload_n 3, 1, 3, 0, 0, mj_u) else none) else
       (bif Nat.beq pc 22 then some (.iaload, 1, 0, 0, 0, mj_u) else none)))) else
    (bif Nat.blt pc 27 then (bif Nat.blt pc 24 then (bif Nat.beq pc 23 then some (.iadd, 1, 0, 0, 0, mj_u) else none) else
      (bif Nat.blt pc 26 then (bif Nat.beq pc 24 then some (.istore 5, 2, 5, 0, 0, mj_u) else none) else
       (bif Nat.beq pc 26 then some (.aload_n 0, 1, 0, 0, 0, mj_u) else none))) else
     (bif Nat.blt pc 30 then (bif Nat.beq pc 27 then some (.getfield 18, 3, 4, 2, 64, .null) else none) else
      (bif Nat.blt pc 31 then (bif Nat.beq pc 30 then some (.aload_n 0, 1, 0, 0, 0, mj_u) else none) else
       (bif Nat.beq pc 31 then some (.iload_n 1, 1, 1, 0, 0, mj_u) else none)))))) else
  (bif Nat.blt pc 49 then (bif Nat.blt pc 40 then (bif Nat.blt pc 36 then (bif Nat.blt pc 33 then (bif Nat.beq pc 32 then some (.iload_n 2, 1, 2, 0, 0, mj_u) else none) else
      (bif Nat.beq pc 33 then some (.invokevirtual 47, 3, 12, 0, 258, mj_u) else none)) else
     (bif Nat.blt pc 38 then (bif Nat.beq pc 36 then some (.bipush 8, 2, 0, 0, 0, .int 8) else none) else
      (bif Nat.blt pc 39 then (bif Nat.beq pc 38 then some (.imul, 1, 0, 0, 0, mj_u) else none) else
       (bif Nat.beq pc 39 then some (.iload_n 3, 1, 3, 0, 0, mj_u) else none)))) else
    (bif Nat.blt pc 42 then (bif Nat.blt pc 41 then (bif Nat.beq pc 40 then some (.iadd, 1, 0, 0, 0, mj_u) else none) else
      (bif Nat.beq pc 41 then some (.aload_n 0, 1, 0, 0, 0, mj_u) else none)) else
     (bif Nat.blt pc 44 then (bif Nat.beq pc 42 then some (.iload 4, 2, 4, 0, 0, mj_u) else none) else
      (bif Nat.blt pc 46 then (bif Nat.beq pc 44 then some (.iload 5, 2, 5, 0, 0, mj_u) else none) else
       (bif Nat.beq pc 46 then some (.invokevirtual 51, 3, 13, 0, 262, mj_u) else none))))) else
   (bif Nat.blt pc 60 then (bif Nat.blt pc 53 then (bif Nat.blt pc 52 then (bif Nat.beq pc 49 then some (.ifCond .eq 14, 3, 63, 0, 0, mj_u) else none) else
      (bif Nat.beq pc 52 then some (.aload_n 0, 1, 0, 0, 0, mj_u) else none)) else
     (bif Nat.blt pc 55 then (bif Nat.beq pc 53 then some (.iload 4, 2, 4, 0, 0, mj_u) else none) else
      (bif Nat.blt pc 57 then (bif Nat.beq pc 55 then some (.iload 5, 2, 5, 0, 0, mj_u) else none) else
       (bif Nat.beq pc 57 then some (.invokevirtual 47, 3, 12, 0, 258, mj_u) else none)))) else
    (bif Nat.blt pc 65 then (bif Nat.blt pc 63 then (bif Nat.beq pc 60 then some (.goto 4, 3, 64, 0, 0, mj_u) else none) else
      (bif Nat.blt pc 64 then (bif Nat.beq pc 63 then some (.iconst (-1), 1, 0, 0, 0, .int (-1)) else none) else
       (bif Nat.beq pc 64 then some (.iastore, 1, 0, 0, 0, mj_u) else none))) else
     (bif Nat.blt pc 68 then (bif Nat.beq pc 65 then some (.iinc 3 1, 3, 3, 0, 0, .int 1) else none) else
      (bif Nat.blt pc 71 then (bif Nat.beq pc 68 then some (.goto (-66), 3, 2, 0, 0, mj_u) else none) else
       (bif Nat.beq pc 71 then some (.return_, 1, 0, 0, 0, mj_u) else none))))))
def m_Land_findNeighbours : mj_M := (11, prog_6_method_3_code, 6, (Option.none : Option Jvm.ClassFile.FieldType), 4, 2, 253, 252, 0, 27, 72, k_Land_findNeighbours)
/-- WatershedMap$Land.numberOf(II)I -/
def k_Land_numberOf : Nat → Option mj_I := fun pc =>
  bif Nat.blt pc 5 then (bif Nat.blt pc 1 then (bif Nat.beq pc 0 then some (.iload_n 2, 1, 2, 0, 0, mj_u) else none) else
   (bif Nat.blt pc 2 then (bif Nat.beq pc 1 then some (.aload_n 0, 1, 0, 0, 0, mj_u) else none) else
    (bif Nat.beq pc 2 then some (.getfield 21, 3, 4, 3, 65, .int 0) else none))) else
  (bif Nat.blt pc 7 then (bif Nat.blt pc 6 then (bif Nat.beq pc 5 then some (.imul, 1, 0, 0, 0, mj_u) else none) else
    (bif Nat.beq pc 6 then some (.iload_n 1, 1, 1, 0, 0, mj_u) else none)) else
   (bif Nat.blt pc 8 then (bif Nat.beq pc 7 then some (.iadd, 1, 0, 0, 0, mj_u) else none) else
    (bif Nat.beq pc 8 then some (.ireturn, 1, 0, 0, 0, mj_u) else none)))
def m_Land_numberOf : mj_M := (12, prog_6_method_5_code, 3, (Option.some Jvm.ClassFile.FieldType.int), 4, 2, 261, 259, 260, 27, 9, k_Land_numberOf)
/-- WatershedMap$Land.has(II)Z -/
def k_Land_has : Nat → Option mj_I := fun pc =>
  bif Nat.blt pc 16 then (bif Nat.blt pc 6 then (bif Nat.blt pc 4 then (bif Nat.blt pc 1 then (bif Nat.beq pc 0 then some (.iload_n 1, 1, 1, 0, 0, mj_u) else none) else
     (bif Nat.beq pc 1 then some (.ifCond .lt 27, 3, 28, 0, 0, mj_u) else none)) else
    (bif Nat.blt pc 5 then (bif Nat.beq pc 4 then some (.iload_n 1, 1, 1, 0, 0, mj_u) else none) else
     (bif Nat.beq pc 5 then some (.aload_n 0, 1, 0, 0, 0, mj_u) else none))) else
   (bif Nat.blt pc 12 then (bif Nat.blt pc 9 then (bif Nat.beq pc 6 then some (.getfield 21, 3, 4, 3, 65, .int 0) else none) else
     (bif Nat.beq pc 9 then some (.if_icmp .ge 19, 3, 28, 0, 0, mj_u) else none)) else
    (bif Nat.blt pc 13 then (bif Nat.beq pc 12 then some (.iload_n 2, 1, 2, 0, 0, mj_u) else none) else
     (bif Nat.beq pc 13 then some (.ifCond .lt 15, 3, 28, 0, 0, mj_u) else none)))) else
  (bif Nat.blt pc 24 then (bif Nat.blt pc 18 then (bif Nat.blt pc 17 then (bif Nat.beq pc 16 then some (.iload_n 2, 1, 2, 0, 0, mj_u) else none) else
     (bif Nat.beq pc 17 then some (.aload_n 0, 1, 0, 0, 0, mj_u) else none)) else
    (bif Nat.blt pc 21 then (bif Nat.beq pc 18 then some (.getfield 25, 3, 4, 4, 69, .int 0) else none) else
     (bif Nat.beq pc 21 then some (.if_icmp .ge 7, 3, 28, 0, 0, mj_u) else none))) else
   (bif Nat.blt pc 28 then (bif Nat.blt pc 25 then (bif Nat.beq pc 24 then some (.iconst 1, 1, 0, 0, 0, .int 1) else none) else
     (bif Nat.beq pc 25 then some (.goto 4, 3, 29, 0, 0, mj_u) else none)) else
    (bif Nat.blt pc 29 then (bif Nat.beq pc 28 then some (.iconst 0, 1, 0, 0, 0, .int 0) else none) else
     (bif Nat.beq pc 29 then some (.ireturn, 1, 0, 0, 0, mj_u) else none))))
def m_Land_has : mj_M := (13, prog_6_method_4_code, 3, (Option.some Jvm.ClassFile.FieldType.boolean), 4, 2, 265, 263, 264, 27, 30, k_Land_has)
/-- WatershedMap.reset(II)I -/
def k_W_reset : Nat → Option mj_I := fun pc =>
  bif Nat.blt pc 14 then (bif Nat.blt pc 7 then (bif Nat.blt pc 2 then (bif Nat.blt pc 1 then (bif Nat.beq pc 0 then some (.iload_n 1, 1, 1, 0, 0, mj_u) else none) else
     (bif Nat.beq pc 1 then some (.iconst 2, 1, 0, 0, 0, .int 2) else none)) else
    (bif Nat.blt pc 4 then (bif Nat.beq pc 2 then some (.bipush 16, 2, 0, 0, 0, .int 16) else none) else
     (bif Nat.beq pc 4 then some (.invokestatic 65, 3, 15, 0, 295, mj_u) else none))) else
   (bif Nat.blt pc 9 then (bif Nat.blt pc 8 then (bif Nat.beq pc 7 then some (.iload_n 2, 1, 2, 0, 0, mj_u) else none) else
     (bif Nat.beq pc 8 then some (.iconst 2, 1, 0, 0, 0, .int 2) else none)) else
    (bif Nat.blt pc 11 then (bif Nat.beq pc 9 then some (.bipush 16, 2, 0, 0, 0, .int 16) else none) else
     (bif Nat.beq pc 11 then some (.invokestatic 65, 3, 15, 0, 295, mj_u) else none)))) else
  (bif Nat.blt pc 20 then (bif Nat.blt pc 18 then (bif Nat.blt pc 15 then (bif Nat.beq pc 14 then some (.aload_n 0, 1, 0, 0, 0, mj_u) else none) else
     (bif Nat.beq pc 15 then some (.getfield 10, 3, 8, 0, 266, .null) else none)) else
    (bif Nat.blt pc 19 then (bif Nat.beq pc 18 then some (.iload_n 1, 1, 1, 0, 0, mj_u) else none) else
     (bif Nat.beq pc 19 then some (.iload_n 2, 1, 2, 0, 0, mj_u) else none))) else
   (bif Nat.blt pc 24 then (bif Nat.blt pc 23 then (bif Nat.beq pc 20 then some (.invokevirtual 61, 3, 9, 0, 243, mj_u) else none) else
     (bif Nat.beq pc 23 then some (.aload_n 0, 1, 0, 0, 0, mj_u) else none)) else
    (bif Nat.blt pc 27 then (bif Nat.beq pc 24 then some (.getfield 10, 3, 8, 0, 266, .null) else none) else
     (bif Nat.blt pc 30 then (bif Nat.beq pc 27 then some (.getfield 69, 3, 4, 5, 75, .int 0) else none) else
      (bif Nat.beq pc 30 then some (.ireturn, 1, 0, 0, 0, mj_u) else none)))))
def m_W_reset : mj_M := (14, prog_1_method_2_code, 3, (Option.some Jvm.ClassFile.FieldType.int), 8, 2, 294, 292, 293, 26, 31, k_W_reset)
/-- WatershedMap.checkRange(III)V static -/
def k_W_checkRange : Nat → Option mj_I := fun pc =>
  bif Nat.blt pc 10 then (bif Nat.blt pc 5 then (bif Nat.blt pc 1 then (bif Nat.beq pc 0 then some (.iload_n 0, 1, 0, 0, 0, mj_u) else none) else
    (bif Nat.blt pc 2 then (bif Nat.beq pc 1 then some (.iload_n 1, 1, 1, 0, 0, mj_u) else none) else
     (bif Nat.beq pc 2 then some (.if_icmp .lt 8, 3, 10, 0, 0, mj_u) else none))) else
   (bif Nat.blt pc 6 then (bif Nat.beq pc 5 then some (.iload_n 0, 1, 0, 0, 0, mj_u) else none) else
    (bif Nat.blt pc 7 then (bif Nat.beq pc 6 then some (.iload_n 2, 1, 2, 0, 0, mj_u) else none) else
     (bif Nat.beq pc 7 then some (.if_icmp .le 13, 3, 20, 0, 0, mj_u) else none)))) else
  (bif Nat.blt pc 16 then (bif Nat.blt pc 13 then (bif Nat.beq pc 10 then some (.new 169, 3, 1000, 0, 0, mj_u) else none) else
    (bif Nat.blt pc 14 then (bif Nat.beq pc 13 then some (.dup, 1, 0, 0, 0, mj_u) else none) else
     (bif Nat.beq pc 14 then some (.ldc 218, 2, 0, 0, 0, mj_u) else none))) else
   (bif Nat.blt pc 19 then (bif Nat.beq pc 16 then some (.invokespecial 173, 3, 1002, 0, 339, mj_u) else none) else
    (bif Nat.blt pc 20 then (bif Nat.beq pc 19 then some (.athrow, 1, 0, 0, 0, mj_u) else none) else
     (bif Nat.beq pc 20 then some (.return_, 1, 0, 0, 0, mj_u) else none))))
def m_W_checkRange : mj_M := (15, prog_1_method_35_code, 3, (Option.none : Option Jvm.ClassFile.FieldType), 8, 3, 297, 296, 0, 26, 21, k_W_checkRange)
/-- WatershedMap.set(III)I -/
def k_W_set : Nat → Option mj_I := fun pc =>
  bif Nat.blt pc 15 then (bif Nat.blt pc 6 then (bif Nat.blt pc 2 then (bif Nat.blt pc 1 then (bif Nat.beq pc 0 then some (.aload_n 0, 1, 0, 0, 0, mj_u) else none) else
     (bif Nat.beq pc 1 then some (.iload_n 1, 1, 1, 0, 0, mj_u) else none)) else
    (bif Nat.blt pc 3 then (bif Nat.beq pc 2 then some (.iload_n 2, 1, 2, 0, 0, mj_u) else none) else
     (bif Nat.beq pc 3 then some (.invokevirtual 72, 3, 17, 0, 369, mj_u) else none))) else
   (bif Nat.blt pc 8 then (bif Nat.blt pc 7 then (bif Nat.beq pc 6 then some (.iload_n 3, 1, 3, 0, 0, mj_u) else none) else
     (bif Nat.beq pc 7 then some (.iconst 0, 1, 0, 0, 0, .int 0) else none)) else
    (bif Nat.blt pc 11 then (bif Nat.beq pc 8 then some (.sipush 999, 3, 0, 0, 0, .int 999) else none) else
     (bif Nat.blt pc 14 then (bif Nat.beq pc 11 then some (.invokestatic 65, 3, 15, 0, 295, mj_u) else none) else
      (bif Nat.beq pc 14 then some (.aload_n 0, 1, 0, 0, 0, mj_u) else none))))) else
  (bif Nat.blt pc 23 then (bif Nat.blt pc 19 then (bif Nat.blt pc 18 then (bif Nat.beq pc 15 then some (.getfield 10, 3, 8, 0, 266, .null) else none) else
     (bif Nat.beq pc 18 then some (.aload_n 0, 1, 0, 0, 0, mj_u) else none)) else
    (bif Nat.blt pc 22 then (bif Nat.beq pc 19 then some (.getfield 10, 3, 8, 0, 266, .null) else none) else
     (bif Nat.beq pc 22 then some (.iload_n 1, 1, 1, 0, 0, mj_u) else none))) else
   (bif Nat.blt pc 27 then (bif Nat.blt pc 24 then (bif Nat.beq pc 23 then some (.iload_n 2, 1, 2, 0, 0, mj_u) else none) else
     (bif Nat.beq pc 24 then some (.invokevirtual 75, 3, 12, 0, 390, mj_u) else none)) else
    (bif Nat.blt pc 28 then (bif Nat.beq pc 27 then some (.iload_n 3, 1, 3, 0, 0, mj_u) else none) else
     (bif Nat.blt pc 31 then (bif Nat.beq pc 28 then some (.invokevirtual 79, 3, 18, 0, 391, mj_u) else none) else
      (bif Nat.beq pc 31 then some (.ireturn, 1, 0, 0, 0, mj_u) else none)))))
def m_W_set : mj_M := (16, prog_1_method_3_code, 4, (Option.some Jvm.ClassFile.FieldType.int), 8, 3, 368, 366, 367, 26, 32, k_W_set)
/-- WatershedMap.checkField(II)V -/
def k_W_checkField : Nat → Option mj_I := fun pc =>
  bif Nat.blt pc 12 then (bif Nat.blt pc 5 then (bif Nat.blt pc 1 then (bif Nat.beq pc 0 then some (.aload_n 0, 1, 0, 0, 0, mj_u) else none) else
    (bif Nat.blt pc 4 then (bif Nat.beq pc 1 then some (.getfield 10, 3, 8, 0, 266, .null) else none) else
     (bif Nat.beq pc 4 then some (.iload_n 1, 1, 1, 0, 0, mj_u) else none))) else
   (bif Nat.blt pc 6 then (bif Nat.beq pc 5 then some (.iload_n 2, 1, 2, 0, 0, mj_u) else none) else
    (bif Nat.blt pc 9 then (bif Nat.beq pc 6 then some (.invokevirtual 209, 3, 13, 0, 373, mj_u) else none) else
     (bif Nat.beq pc 9 then some (.ifCond .ne 13, 3, 22, 0, 0, mj_u) else none)))) else
  (bif Nat.blt pc 18 then (bif Nat.blt pc 15 then (bif Nat.beq pc 12 then some (.new 213, 3, 1000, 0, 0, mj_u) else none) else
    (bif Nat.blt pc 16 then (bif Nat.beq pc 15 then some (.dup, 1, 0, 0, 0, mj_u) else none) else
     (bif Nat.beq pc 16 then some (.ldc 215, 2, 0, 0, 0, mj_u) else none))) else
   (bif Nat.blt pc 21 then (bif Nat.beq pc 18 then some (.invokespecial 217, 3, 1002, 0, 384, mj_u) else none) else
    (bif Nat.blt pc 22 then (bif Nat.beq pc 21 then some (.athrow, 1, 0, 0, 0, mj_u) else none) else
     (bif Nat.beq pc 22 then some (.return_, 1, 0, 0, 0, mj_u) else none))))
def m_W_checkField : mj_M := (17, prog_1_method_34_code, 3, (Option.none : Option Jvm.ClassFile.FieldType), 8, 2, 372, 371, 2, 26, 23, k_W_checkField)
/-- WatershedMap$Land.exchange(II)I -/
def k_Land_exchange : Nat → Option mj_I := fun pc =>
  bif Nat.blt pc 16 then (bif Nat.blt pc 7 then (bif Nat.blt pc 4 then (bif Nat.blt pc 1 then (bif Nat.beq pc 0 then some (.aload_n 0, 1, 0, 0, 0, mj_u) else none) else
     (bif Nat.beq pc 1 then some (.getfield 9, 3, 4, 0, 57, .null) else none)) else
    (bif Nat.blt pc 5 then (bif Nat.beq pc 4 then some (.iload_n 1, 1, 1, 0, 0, mj_u) else none) else
     (bif Nat.blt pc 6 then (bif Nat.beq pc 5 then some (.iaload, 1, 0, 0, 0, mj_u) else none) else
      (bif Nat.beq pc 6 then some (.istore_n 3, 1, 3, 0, 0, mj_u) else none)))) else
   (bif Nat.blt pc 11 then (bif Nat.blt pc 8 then (bif Nat.beq pc 7 then some (.aload_n 0, 1, 0, 0, 0, mj_u) else none) else
     (bif Nat.beq pc 8 then some (.getfield 9, 3, 4, 0, 57, .null) else none)) else
    (bif Nat.blt pc 12 then (bif Nat.beq pc 11 then some (.iload_n 1, 1, 1, 0, 0, mj_u) else none) else
     (bif Nat.blt pc 13 then (bif Nat.beq pc 12 then some (.iload_n 2, 1, 2, 0, 0, mj_u) else none) else
      (bif Nat.beq pc 13 then some (.ifCond .ge 7, 3, 20, 0, 0, mj_u) else none))))) else
  (bif Nat.blt pc 27 then (bif Nat.blt pc 20 then (bif Nat.blt pc 17 then (bif Nat.beq pc 16 then some (.iconst 0, 1, 0, 0, 0, .int 0) else none) else
     (bif Nat.beq pc 17 then some (.goto 17, 3, 34, 0, 0, mj_u) else none)) else
    (bif Nat.blt pc 21 then (bif Nat.beq pc 20 then some (.iload_n 2, 1, 2, 0, 0, mj_u) else none) else
     (bif Nat.blt pc 24 then (bif Nat.beq pc 21 then some (.sipush 999, 3, 0, 0, 0, .int 999) else none) else
      (bif Nat.beq pc 24 then some (.if_icmp .le 9, 3, 33, 0, 0, mj_u) else none)))) else
   (bif Nat.blt pc 34 then (bif Nat.blt pc 30 then (bif Nat.beq pc 27 then some (.sipush 999, 3, 0, 0, 0, .int 999) else none) else
     (bif Nat.blt pc 33 then (bif Nat.beq pc 30 then some (.goto 4, 3, 34, 0, 0, mj_u) else none) else
      (bif Nat.beq pc 33 then some (.iload_n 2, 1, 2, 0, 0, mj_u) else none))) else
    (bif Nat.blt pc 35 then (bif Nat.beq pc 34 then some (.iastore, 1, 0, 0, 0, mj_u) else none) else
     (bif Nat.blt pc 36 then (bif Nat.beq pc 35 then some (.iload_n 3, 1, 3, 0, 0, mj_u) else none) else
      (bif Nat.beq pc 36 then some (.ireturn, 1, 0, 0, 0, mj_u) else none)))))
def m_Land_exchange : mj_M := (18, prog_6_method_9_code, 4, (Option.some Jvm.ClassFile.FieldType.int), 4, 2, 394, 392, 393, 27, 37, k_Land_exchange)
/-- WatershedMap.tilt(III)I -/
def k_W_tilt : Nat → Option mj_I := fun pc =>
  bif Nat.blt pc 21 then (bif Nat.blt pc 9 then (bif Nat.blt pc 3 then (bif Nat.blt pc 1 then (bif Nat.beq pc 0 then some (.iload_n 1, 1, 1, 0, 0, mj_u) else none) else
     (bif Nat.beq pc 1 then some (.bipush (-100), 2, 0, 0, 0, .int (-100)) else none)) else
    (bif Nat.blt pc 5 then (bif Nat.beq pc 3 then some (.bipush 100, 2, 0, 0, 0, .int 100) else none) else
     (bif Nat.blt pc 8 then (bif Nat.beq pc 5 then some (.invokestatic 65, 3, 15, 0, 295, mj_u) else none) else
      (bif Nat.beq pc 8 then some (.iload_n 2, 1, 2, 0, 0, mj_u) else none)))) else
   (bif Nat.blt pc 16 then (bif Nat.blt pc 11 then (bif Nat.beq pc 9 then some (.bipush (-100), 2, 0, 0, 0, .int (-100)) else none) else
     (bif Nat.blt pc 13 then (bif Nat.beq pc 11 then some (.bipush 100, 2, 0, 0, 0, .int 100) else none) else
      (bif Nat.beq pc 13 then some (.invokestatic 65, 3, 15, 0, 295, mj_u) else none))) else
    (bif Nat.blt pc 17 then (bif Nat.beq pc 16 then some (.iload_n 3, 1, 3, 0, 0, mj_u) else none) else
     (bif Nat.blt pc 19 then (bif Nat.beq pc 17 then some (.bipush (-100), 2, 0, 0, 0, .int (-100)) else none) else
      (bif Nat.beq pc 19 then some (.bipush 100, 2, 0, 0, 0, .int 100) else none))))) else
  (bif Nat.blt pc 30 then (bif Nat.blt pc 25 then (bif Nat.blt pc 24 then (bif Nat.beq pc 21 then some (.invokestatic 65, 3, 15, 0, 295, mj_u) else none) else
     (bif Nat.beq pc 24 then some (.aload_n 0, 1, 0, 0, 0, mj_u) else none)) else
    (bif Nat.blt pc 28 then (bif Nat.beq pc 25 then some (.getfield 10, 3, 8, 0, 266, .null) else none) else
     (bif Nat.blt pc 29 then (bif Nat.beq pc 28 then some (.iload_n 1, 1, 1, 0, 0, mj_u) else none) else
      (bif Nat.beq pc 29 then some (.iload_n 2, 1, 2, 0, 0, mj_u) else none)))) else
   (bif Nat.blt pc 35 then (bif Nat.blt pc 31 then (bif Nat.beq pc 30 then some (.iload_n 3, 1, 3, 0, 0, mj_u) else none) else
     (bif Nat.blt pc 34 then (bif Nat.beq pc 31 then some (.invokevirtual 82, 3, 20, 0, 399, mj_u) else none) else
      (bif Nat.beq pc 34 then some (.aload_n 0, 1, 0, 0, 0, mj_u) else none))) else
    (bif Nat.blt pc 38 then (bif Nat.beq pc 35 then some (.getfield 10, 3, 8, 0, 266, .null) else none) else
     (bif Nat.blt pc 41 then (bif Nat.beq pc 38 then some (.invokevirtual 85, 3, 21, 0, 404, mj_u) else none) else
      (bif Nat.beq pc 41 then some (.ireturn, 1, 0, 0, 0, mj_u) else none)))))
def m_W_tilt : mj_M := (19, prog_1_method_4_code, 4, (Option.some Jvm.ClassFile.FieldType.int), 8, 3, 398, 396, 397, 26, 42, k_W_tilt)
/-- WatershedMap$Land.slope(III)V -/
def k_Land_slope : Nat → Option mj_I := fun pc =>
  bif Nat.blt pc 52 then (bif Nat.blt pc 27 then (bif Nat.blt pc 13 then (bif Nat.blt pc 5 then (bif Nat.blt pc 1 then (bif Nat.beq pc 0 then some (.iconst 0, 1, 0, 0, 0, .int 0) else none) else
      (bif Nat.blt pc 3 then (bif Nat.beq pc 1 then some (.istore 4, 2, 4, 0, 0, mj_u) else none) else
       (bif Nat.beq pc 3 then some (.iload 4, 2, 4, 0, 0, mj_u) else none))) else
     (bif Nat.blt pc 9 then (bif Nat.blt pc 6 then (bif Nat.beq pc 5 then some (.aload_n 0, 1, 0, 0, 0, mj_u) else none) else
       (bif Nat.beq pc 6 then some (.getfield 25, 3, 4, 4, 69, .int 0) else none)) else
      (bif Nat.blt pc 12 then (bif Nat.beq pc 9 then some (.if_icmp .ge 90, 3, 99, 0, 0, mj_u) else none) else
       (bif Nat.beq pc 12 then some (.iconst 0, 1, 0, 0, 0, .int 0) else none)))) else
    (bif Nat.blt pc 18 then (bif Nat.blt pc 15 then (bif Nat.beq pc 13 then some (.istore 5, 2, 5, 0, 0, mj_u) else none) else
      (bif Nat.blt pc 17 then (bif Nat.beq pc 15 then some (.iload 5, 2, 5, 0, 0, mj_u) else none) else
       (bif Nat.beq pc 17 then some (.aload_n 0, 1, 0, 0, 0, mj_u) else none))) else
     (bif Nat.blt pc 24 then (bif Nat.blt pc 21 then (bif Nat.beq pc 18 then some (.getfield 21, 3, 4, 3, 65, .int 0) else none) else
       (bif Nat.beq pc 21 then some (.if_icmp .ge 72, 3, 93, 0, 0, mj_u) else none)) else
      (bif Nat.blt pc 25 then (bif Nat.beq pc 24 then some (.aload_n 0, 1, 0, 0, 0, mj_u) else none) else
       (bif Nat.beq pc 25 then some (.iload 5, 2, 5, 0, 0, mj_u) else none))))) else
   (bif Nat.blt pc 41 then (bif Nat.blt pc 34 then (bif Nat.blt pc 29 then (bif Nat.beq pc 27 then some (.iload 4, 2, 4, 0, 0, mj_u) else none) else
      (bif Nat.blt pc 32 then (bif Nat.beq pc 29 then some (.invokevirtual 47, 3, 12, 0, 258, mj_u) else none) else
       (bif Nat.beq pc 32 then some (.istore 6, 2, 6, 0, 0, mj_u) else none))) else
     (bif Nat.blt pc 38 then (bif Nat.blt pc 36 then (bif Nat.beq pc 34 then some (.iload 5, 2, 5, 0, 0, mj_u) else none) else
       (bif Nat.beq pc 36 then some (.bipush 7, 2, 0, 0, 0, .int 7) else none)) else
      (bif Nat.blt pc 39 then (bif Nat.beq pc 38 then some (.imul, 1, 0, 0, 0, mj_u) else none) else
       (bif Nat.beq pc 39 then some (.iload 4, 2, 4, 0, 0, mj_u) else none)))) else
    (bif Nat.blt pc 47 then (bif Nat.blt pc 44 then (bif Nat.blt pc 43 then (bif Nat.beq pc 41 then some (.bipush 13, 2, 0, 0, 0, .int 13) else none) else
       (bif Nat.beq pc 43 then some (.imul, 1, 0, 0, 0, mj_u) else none)) else
      (bif Nat.blt pc 45 then (bif Nat.beq pc 44 then some (.iadd, 1, 0, 0, 0, mj_u) else none) else
       (bif Nat.beq pc 45 then some (.iload 5, 2, 5, 0, 0, mj_u) else none))) else
     (bif Nat.blt pc 50 then (bif Nat.blt pc 49 then (bif Nat.beq pc 47 then some (.iload 4, 2, 4, 0, 0, mj_u) else none) else
       (bif Nat.beq pc 49 then some (.imul, 1, 0, 0, 0, mj_u) else none)) else
      (bif Nat.blt pc 51 then (bif Nat.beq pc 50 then some (.iconst 5, 1, 0, 0, 0, .int 5) else none) else
       (bif Nat.beq pc 51 then some (.imul, 1, 0, 0, 0, mj_u) else none)))))) else
  (bif Nat.blt pc 73 then (bif Nat.blt pc 62 then (bif Nat.blt pc 56 then (bif Nat.blt pc 53 then (bif Nat.beq pc 52 then some (.iadd, 1, 0, 0, 0, mj_u) else none) else
      (bif Nat.blt pc 55 then (bif Nat.beq pc 53 then some (.bipush 17, 2, 0, 0, 0, .int 17) else none) else
       (bif Nat.beq pc 55 then some (.irem, 1, 0, 0, 0, mj_u) else none))) else
     (bif Nat.blt pc 59 then (bif Nat.blt pc 58 then (bif Nat.beq pc 56 then some (.istore 7, 2, 7, 0, 0, mj_u) else none) else
       (bif Nat.beq pc 58 then some (.aload_n 0, 1, 0, 0, 0, mj_u) else none)) else
      (bif Nat.blt pc 61 then (bif Nat.beq pc 59 then some (.iload 6, 2, 6, 0, 0, mj_u) else none) else
       (bif Nat.beq pc 61 then some (.aload_n 0, 1, 0, 0, 0, mj_u) else none)))) else
    (bif Nat.blt pc 68 then (bif Nat.blt pc 65 then (bif Nat.beq pc 62 then some (.getfield 9, 3, 4, 0, 57, .null) else none) else
      (bif Nat.blt pc 67 then (bif Nat.beq pc 65 then some (.iload 6, 2, 6, 0, 0, mj_u) else none) else
       (bif Nat.beq pc 67 then some (.iaload, 1, 0, 0, 0, mj_u) else none))) else
     (bif Nat.blt pc 71 then (bif Nat.blt pc 69 then (bif Nat.beq pc 68 then some (.iload_n 1, 1, 1, 0, 0, mj_u) else none) else
       (bif Nat.beq pc 69 then some (.iload 5, 2, 5, 0, 0, mj_u) else none)) else
      (bif Nat.blt pc 72 then (bif Nat.beq pc 71 then some (.imul, 1, 0, 0, 0, mj_u) else none) else
       (bif Nat.beq pc 72 then some (.iadd, 1, 0, 0, 0, mj_u) else none))))) else
   (bif Nat.blt pc 82 then (bif Nat.blt pc 77 then (bif Nat.blt pc 74 then (bif Nat.beq pc 73 then some (.iload_n 2, 1, 2, 0, 0, mj_u) else none) else
      (bif Nat.blt pc 76 then (bif Nat.beq pc 74 then some (.iload 4, 2, 4, 0, 0, mj_u) else none) else
       (bif Nat.beq pc 76 then some (.imul, 1, 0, 0, 0, mj_u) else none))) else
     (bif Nat.blt pc 80 then (bif Nat.blt pc 78 then (bif Nat.beq pc 77 then some (.iadd, 1, 0, 0, 0, mj_u) else none) else
       (bif Nat.beq pc 78 then some (.iload 7, 2, 7, 0, 0, mj_u) else none)) else
      (bif Nat.blt pc 81 then (bif Nat.beq pc 80 then some (.iload_n 3, 1, 3, 0, 0, mj_u) else none) else
       (bif Nat.beq pc 81 then some (.imul, 1, 0, 0, 0, mj_u) else none)))) else
    (bif Nat.blt pc 90 then (bif Nat.blt pc 86 then (bif Nat.blt pc 83 then (bif Nat.beq pc 82 then some (.iadd, 1, 0, 0, 0, mj_u) else none) else
       (bif Nat.beq pc 83 then some (.invokevirtual 80, 3, 18, 0, 403, mj_u) else none)) else
      (bif Nat.blt pc 87 then (bif Nat.beq pc 86 then some (.pop, 1, 0, 0, 0, mj_u) else none) else
       (bif Nat.beq pc 87 then some (.iinc 5 1, 3, 5, 0, 0, .int 1) else none))) else
     (bif Nat.blt pc 96 then (bif Nat.blt pc 93 then (bif Nat.beq pc 90 then some (.goto (-75), 3, 15, 0, 0, mj_u) else none) else
       (bif Nat.beq pc 93 then some (.iinc 4 1, 3, 4, 0, 0, .int 1) else none)) else
      (bif Nat.blt pc 99 then (bif Nat.beq pc 96 then some (.goto (-93), 3, 3, 0, 0, mj_u) else none) else
       (bif Nat.beq pc 99 then some (.return_, 1, 0, 0, 0, mj_u) else none))))))
def m_Land_slope : mj_M := (20, prog_6_method_15_code, 8, (Option.none : Option Jvm.ClassFile.FieldType), 4, 3, 402, 400, 401, 27, 100, k_Land_slope)
/-- WatershedMap$Land.greatest()I -/
def k_Land_greatest : Nat → Option mj_I := fun pc =>
  bif Nat.blt pc 13 then (bif Nat.blt pc 4 then (bif Nat.blt pc 2 then (bif Nat.blt pc 1 then (bif Nat.beq pc 0 then some (.iconst 0, 1, 0, 0, 0, .int 0) else none) else
     (bif Nat.beq pc 1 then some (.istore_n 1, 1, 1, 0, 0, mj_u) else none)) else
    (bif Nat.blt pc 3 then (bif Nat.beq pc 2 then some (.iconst 0, 1, 0, 0, 0, .int 0) else none) else
     (bif Nat.beq pc 3 then some (.istore_n 2, 1, 2, 0, 0, mj_u) else none))) else
   (bif Nat.blt pc 6 then (bif Nat.blt pc 5 then (bif Nat.beq pc 4 then some (.iload_n 2, 1, 2, 0, 0, mj_u) else none) else
     (bif Nat.beq pc 5 then some (.aload_n 0, 1, 0, 0, 0, mj_u) else none)) else
    (bif Nat.blt pc 9 then (bif Nat.beq pc 6 then some (.getfield 28, 3, 4, 5, 73, .int 0) else none) else
     (bif Nat.blt pc 12 then (bif Nat.beq pc 9 then some (.if_icmp .ge 20, 3, 29, 0, 0, mj_u) else none) else
      (bif Nat.beq pc 12 then some (.iload_n 1, 1, 1, 0, 0, mj_u) else none))))) else
  (bif Nat.blt pc 22 then (bif Nat.blt pc 17 then (bif Nat.blt pc 14 then (bif Nat.beq pc 13 then some (.aload_n 0, 1, 0, 0, 0, mj_u) else none) else
     (bif Nat.beq pc 14 then some (.getfield 9, 3, 4, 0, 57, .null) else none)) else
    (bif Nat.blt pc 18 then (bif Nat.beq pc 17 then some (.iload_n 2, 1, 2, 0, 0, mj_u) else none) else
     (bif Nat.blt pc 19 then (bif Nat.beq pc 18 then some (.iaload, 1, 0, 0, 0, mj_u) else none) else
      (bif Nat.beq pc 19 then some (.invokestatic 77, 3, 22, 0, 408, mj_u) else none)))) else
   (bif Nat.blt pc 26 then (bif Nat.blt pc 23 then (bif Nat.beq pc 22 then some (.istore_n 1, 1, 1, 0, 0, mj_u) else none) else
     (bif Nat.beq pc 23 then some (.iinc 2 1, 3, 2, 0, 0, .int 1) else none)) else
    (bif Nat.blt pc 29 then (bif Nat.beq pc 26 then some (.goto (-22), 3, 4, 0, 0, mj_u) else none) else
     (bif Nat.blt pc 30 then (bif Nat.beq pc 29 then some (.iload_n 1, 1, 1, 0, 0, mj_u) else none) else
      (bif Nat.beq pc 30 then some (.ireturn, 1, 0, 0, 0, mj_u) else none)))))
def m_Land_greatest : mj_M := (21, prog_6_method_13_code, 3, (Option.some Jvm.ClassFile.FieldType.int), 4, 0, 407, 405, 406, 27, 31, k_Land_greatest)
/-- java/lang/Math.max(II)I static -/
def k_Math_max : Nat → Option mj_I := fun pc =>
  bif Nat.blt pc 5 then (bif Nat.blt pc 1 then (bif Nat.beq pc 0 then some (.iload_n 0, 1, 0, 0, 0, mj_u) else none) else
   (bif Nat.blt pc 2 then (bif Nat.beq pc 1 then some (.iload_n 1, 1, 1, 0, 0, mj_u) else none) else
    (bif Nat.beq pc 2 then some (.if_icmp .lt 7, 3, 9, 0, 0, mj_u) else none))) else
  (bif Nat.blt pc 9 then (bif Nat.blt pc 6 then (bif Nat.beq pc 5 then some (.iload_n 0, 1, 0, 0, 0, mj_u) else none) else
    (bif Nat.beq pc 6 then some (.goto 4, 3, 10, 0, 0, mj_u) else none)) else
   (bif Nat.blt pc 10 then (bif Nat.beq pc 9 then some (.iload_n 1, 1, 1, 0, 0, mj_u) else none) else
    (bif Nat.beq pc 10 then some (.ireturn, 1, 0, 0, 0, mj_u) else none)))
def m_Math_max : mj_M := (22, prog_16_method_65_code, 2, (Option.some Jvm.ClassFile.FieldType.int), 9, 2, 410, 409, 0, 41, 11, k_Math_max)
/-- WatershedMap.hill(IIII)I -/
def k_W_hill : Nat → Option mj_I := fun pc =>
  bif Nat.blt pc 18 then (bif Nat.blt pc 7 then (bif Nat.blt pc 2 then (bif Nat.blt pc 1 then (bif Nat.beq pc 0 then some (.aload_n 0, 1, 0, 0, 0, mj_u) else none) else
     (bif Nat.beq pc 1 then some (.iload_n 1, 1, 1, 0, 0, mj_u) else none)) else
    (bif Nat.blt pc 3 then (bif Nat.beq pc 2 then some (.iload_n 2, 1, 2, 0, 0, mj_u) else none) else
     (bif Nat.blt pc 6 then (bif Nat.beq pc 3 then some (.invokevirtual 72, 3, 17, 0, 369, mj_u) else none) else
      (bif Nat.beq pc 6 then some (.iload_n 3, 1, 3, 0, 0, mj_u) else none)))) else
   (bif Nat.blt pc 10 then (bif Nat.blt pc 8 then (bif Nat.beq pc 7 then some (.iconst 0, 1, 0, 0, 0, .int 0) else none) else
     (bif Nat.beq pc 8 then some (.bipush 8, 2, 0, 0, 0, .int 8) else none)) else
    (bif Nat.blt pc 13 then (bif Nat.beq pc 10 then some (.invokestatic 65, 3, 15, 0, 295, mj_u) else none) else
     (bif Nat.blt pc 15 then (bif Nat.beq pc 13 then some (.iload 4, 2, 4, 0, 0, mj_u) else none) else
      (bif Nat.beq pc 15 then some (.sipush (-500), 3, 0, 0, 0, .int (-500)) else none))))) else
  (bif Nat.blt pc 29 then (bif Nat.blt pc 24 then (bif Nat.blt pc 21 then (bif Nat.beq pc 18 then some (.sipush 500, 3, 0, 0, 0, .int 500) else none) else
     (bif Nat.beq pc 21 then some (.invokestatic 65, 3, 15, 0, 295, mj_u) else none)) else
    (bif Nat.blt pc 25 then (bif Nat.beq pc 24 then some (.aload_n 0, 1, 0, 0, 0, mj_u) else none) else
     (bif Nat.blt pc 28 then (bif Nat.beq pc 25 then some (.getfield 10, 3, 8, 0, 266, .null) else none) else
      (bif Nat.beq pc 28 then some (.iload_n 1, 1, 1, 0, 0, mj_u) else none)))) else
   (bif Nat.blt pc 31 then (bif Nat.blt pc 30 then (bif Nat.beq pc 29 then some (.iload_n 2, 1, 2, 0, 0, mj_u) else none) else
     (bif Nat.beq pc 30 then some (.iload_n 3, 1, 3, 0, 0, mj_u) else none)) else
    (bif Nat.blt pc 33 then (bif Nat.beq pc 31 then some (.iload 4, 2, 4, 0, 0, mj_u) else none) else
     (bif Nat.blt pc 36 then (bif Nat.beq pc 33 then some (.invokevirtual 89, 3, 24, 0, 415, mj_u) else none) else
      (bif Nat.beq pc 36 then some (.ireturn, 1, 0, 0, 0, mj_u) else none)))))
def m_W_hill : mj_M := (23, prog_1_method_5_code, 5, (Option.some Jvm.ClassFile.FieldType.int), 8, 4, 414, 412, 413, 26, 37, k_W_hill)
/-- WatershedMap$Land.raise(IIII)I -/
def k_Land_raise : Nat → Option mj_I := fun pc =>
  bif Nat.blt pc 63 then (bif Nat.blt pc 34 then (bif Nat.blt pc 13 then (bif Nat.blt pc 5 then (bif Nat.blt pc 3 then (bif Nat.blt pc 1 then (bif Nat.beq pc 0 then some (.iconst 0, 1, 0, 0, 0, .int 0) else none) else
       (bif Nat.beq pc 1 then some (.istore 5, 2, 5, 0, 0, mj_u) else none)) else
      (bif Nat.blt pc 4 then (bif Nat.beq pc 3 then some (.iload_n 3, 1, 3, 0, 0, mj_u) else none) else
       (bif Nat.beq pc 4 then some (.iload_n 3, 1, 3, 0, 0, mj_u) else none))) else
     (bif Nat.blt pc 8 then (bif Nat.blt pc 6 then (bif Nat.beq pc 5 then some (.imul, 1, 0, 0, 0, mj_u) else none) else
       (bif Nat.beq pc 6 then some (.istore 6, 2, 6, 0, 0, mj_u) else none)) else
      (bif Nat.blt pc 9 then (bif Nat.beq pc 8 then some (.iconst 0, 1, 0, 0, 0, .int 0) else none) else
       (bif Nat.blt pc 11 then (bif Nat.beq pc 9 then some (.istore 7, 2, 7, 0, 0, mj_u) else none) else
        (bif Nat.beq pc 11 then some (.iload 7, 2, 7, 0, 0, mj_u) else none))))) else
    (bif Nat.blt pc 23 then (bif Nat.blt pc 17 then (bif Nat.blt pc 14 then (bif Nat.beq pc 13 then some (.aload_n 0, 1, 0, 0, 0, mj_u) else none) else
       (bif Nat.beq pc 14 then some (.getfield 25, 3, 4, 4, 69, .int 0) else none)) else
      (bif Nat.blt pc 20 then (bif Nat.beq pc 17 then some (.if_icmp .ge 116, 3, 133, 0, 0, mj_u) else none) else
       (bif Nat.blt pc 21 then (bif Nat.beq pc 20 then some (.iconst 0, 1, 0, 0, 0, .int 0) else none) else
        (bif Nat.beq pc 21 then some (.istore 8, 2, 8, 0, 0, mj_u) else none)))) else
     (bif Nat.blt pc 26 then (bif Nat.blt pc 25 then (bif Nat.beq pc 23 then some (.iload 8, 2, 8, 0, 0, mj_u) else none) else
       (bif Nat.beq pc 25 then some (.aload_n 0, 1, 0, 0, 0, mj_u) else none)) else
      (bif Nat.blt pc 29 then (bif Nat.beq pc 26 then some (.getfield 21, 3, 4, 3, 65, .int 0) else none) else
       (bif Nat.blt pc 32 then (bif Nat.beq pc 29 then some (.if_icmp .ge 98, 3, 127, 0, 0, mj_u) else none) else
        (bif Nat.beq pc 32 then some (.iload 8, 2, 8, 0, 0, mj_u) else none)))))) else
   (bif Nat.blt pc 47 then (bif Nat.blt pc 40 then (bif Nat.blt pc 36 then (bif Nat.blt pc 35 then (bif Nat.beq pc 34 then some (.iload_n 1, 1, 1, 0, 0, mj_u) else none) else
       (bif Nat.beq pc 35 then some (.isub, 1, 0, 0, 0, mj_u) else none)) else
      (bif Nat.blt pc 38 then (bif Nat.beq pc 36 then some (.iload 8, 2, 8, 0, 0, mj_u) else none) else
       (bif Nat.blt pc 39 then (bif Nat.beq pc 38 then some (.iload_n 1, 1, 1, 0, 0, mj_u) else none) else
        (bif Nat.beq pc 39 then some (.isub, 1, 0, 0, 0, mj_u) else none)))) else
     (bif Nat.blt pc 43 then (bif Nat.blt pc 41 then (bif Nat.beq pc 40 then some (.imul, 1, 0, 0, 0, mj_u) else none) else
       (bif Nat.beq pc 41 then some (.iload 7, 2, 7, 0, 0, mj_u) else none)) else
      (bif Nat.blt pc 44 then (bif Nat.beq pc 43 then some (.iload_n 2, 1, 2, 0, 0, mj_u) else none) else
       (bif Nat.blt pc 45 then (bif Nat.beq pc 44 then some (.isub, 1, 0, 0, 0, mj_u) else none) else
        (bif Nat.beq pc 45 then some (.iload 7, 2, 7, 0, 0, mj_u) else none))))) else
    (bif Nat.blt pc 53 then (bif Nat.blt pc 49 then (bif Nat.blt pc 48 then (bif Nat.beq pc 47 then some (.iload_n 2, 1, 2, 0, 0, mj_u) else none) else
       (bif Nat.beq pc 48 then some (.isub, 1, 0, 0, 0, mj_u) else none)) else
      (bif Nat.blt pc 50 then (bif Nat.beq pc 49 then some (.imul, 1, 0, 0, 0, mj_u) else none) else
       (bif Nat.blt pc 51 then (bif Nat.beq pc 50 then some (.iadd, 1, 0, 0, 0, mj_u) else none) else
        (bif Nat.beq pc 51 then some (.istore 9, 2, 9, 0, 0, mj_u) else none)))) else
     (bif Nat.blt pc 57 then (bif Nat.blt pc 55 then (bif Nat.beq pc 53 then some (.iload 9, 2, 9, 0, 0, mj_u) else none) else
       (bif Nat.beq pc 55 then some (.iload 6, 2, 6, 0, 0, mj_u) else none)) else
      (bif Nat.blt pc 60 then (bif Nat.beq pc 57 then some (.if_icmp .gt 64, 3, 121, 0, 0, mj_u) else none) else
       (bif Nat.blt pc 61 then (bif Nat.beq pc 60 then some (.aload_n 0, 1, 0, 0, 0, mj_u) else none) else
        (bif Nat.beq pc 61 then some (.iload 8, 2, 8, 0, 0, mj_u) else none))))))) else
  (bif Nat.blt pc 94 then (bif Nat.blt pc 80 then (bif Nat.blt pc 71 then (bif Nat.blt pc 68 then (bif Nat.blt pc 65 then (bif Nat.beq pc 63 then some (.iload 7, 2, 7, 0, 0, mj_u) else none) else
       (bif Nat.beq pc 65 then some (.invokevirtual 47, 3, 12, 0, 258, mj_u) else none)) else
      (bif Nat.blt pc 70 then (bif Nat.beq pc 68 then some (.istore 10, 2, 10, 0, 0, mj_u) else none) else
       (bif Nat.beq pc 70 then some (.aload_n 0, 1, 0, 0, 0, mj_u) else none))) else
     (bif Nat.blt pc 74 then (bif Nat.blt pc 73 then (bif Nat.beq pc 71 then some (.iload 10, 2, 10, 0, 0, mj_u) else none) else
       (bif Nat.beq pc 73 then some (.aload_n 0, 1, 0, 0, 0, mj_u) else none)) else
      (bif Nat.blt pc 77 then (bif Nat.beq pc 74 then some (.getfield 9, 3, 4, 0, 57, .null) else none) else
       (bif Nat.blt pc 79 then (bif Nat.beq pc 77 then some (.iload 10, 2, 10, 0, 0, mj_u) else none) else
        (bif Nat.beq pc 79 then some (.iaload, 1, 0, 0, 0, mj_u) else none))))) else
    (bif Nat.blt pc 88 then (bif Nat.blt pc 83 then (bif Nat.blt pc 82 then (bif Nat.beq pc 80 then some (.iload 4, 2, 4, 0, 0, mj_u) else none) else
       (bif Nat.beq pc 82 then some (.iadd, 1, 0, 0, 0, mj_u) else none)) else
      (bif Nat.blt pc 85 then (bif Nat.beq pc 83 then some (.iload 4, 2, 4, 0, 0, mj_u) else none) else
       (bif Nat.blt pc 87 then (bif Nat.beq pc 85 then some (.iload 9, 2, 9, 0, 0, mj_u) else none) else
        (bif Nat.beq pc 87 then some (.imul, 1, 0, 0, 0, mj_u) else none)))) else
     (bif Nat.blt pc 91 then (bif Nat.blt pc 90 then (bif Nat.beq pc 88 then some (.iload 6, 2, 6, 0, 0, mj_u) else none) else
       (bif Nat.beq pc 90 then some (.iconst 1, 1, 0, 0, 0, .int 1) else none)) else
      (bif Nat.blt pc 92 then (bif Nat.beq pc 91 then some (.iadd, 1, 0, 0, 0, mj_u) else none) else
       (bif Nat.blt pc 93 then (bif Nat.beq pc 92 then some (.idiv, 1, 0, 0, 0, mj_u) else none) else
        (bif Nat.beq pc 93 then some (.isub, 1, 0, 0, 0, mj_u) else none)))))) else
   (bif Nat.blt pc 114 then (bif Nat.blt pc 104 then (bif Nat.blt pc 99 then (bif Nat.blt pc 97 then (bif Nat.beq pc 94 then some (.invokevirtual 80, 3, 18, 0, 403, mj_u) else none) else
       (bif Nat.beq pc 97 then some (.istore 11, 2, 11, 0, 0, mj_u) else none)) else
      (bif Nat.blt pc 101 then (bif Nat.beq pc 99 then some (.iload 5, 2, 5, 0, 0, mj_u) else none) else
       (bif Nat.blt pc 103 then (bif Nat.beq pc 101 then some (.iload 11, 2, 11, 0, 0, mj_u) else none) else
        (bif Nat.beq pc 103 then some (.aload_n 0, 1, 0, 0, 0, mj_u) else none)))) else
     (bif Nat.blt pc 109 then (bif Nat.blt pc 107 then (bif Nat.beq pc 104 then some (.getfield 9, 3, 4, 0, 57, .null) else none) else
       (bif Nat.beq pc 107 then some (.iload 10, 2, 10, 0, 0, mj_u) else none)) else
      (bif Nat.blt pc 110 then (bif Nat.beq pc 109 then some (.iaload, 1, 0, 0, 0, mj_u) else none) else
       (bif Nat.blt pc 113 then (bif Nat.beq pc 110 then some (.if_icmp .eq 7, 3, 117, 0, 0, mj_u) else none) else
        (bif Nat.beq pc 113 then some (.iconst 1, 1, 0, 0, 0, .int 1) else none))))) else
    (bif Nat.blt pc 124 then (bif Nat.blt pc 118 then (bif Nat.blt pc 117 then (bif Nat.beq pc 114 then some (.goto 4, 3, 118, 0, 0, mj_u) else none) else
       (bif Nat.beq pc 117 then some (.iconst 0, 1, 0, 0, 0, .int 0) else none)) else
      (bif Nat.blt pc 119 then (bif Nat.beq pc 118 then some (.iadd, 1, 0, 0, 0, mj_u) else none) else
       (bif Nat.blt pc 121 then (bif Nat.beq pc 119 then some (.istore 5, 2, 5, 0, 0, mj_u) else none) else
        (bif Nat.beq pc 121 then some (.iinc 8 1, 3, 8, 0, 0, .int 1) else none)))) else
     (bif Nat.blt pc 130 then (bif Nat.blt pc 127 then (bif Nat.beq pc 124 then some (.goto (-101), 3, 23, 0, 0, mj_u) else none) else
       (bif Nat.beq pc 127 then some (.iinc 7 1, 3, 7, 0, 0, .int 1) else none)) else
      (bif Nat.blt pc 133 then (bif Nat.beq pc 130 then some (.goto (-119), 3, 11, 0, 0, mj_u) else none) else
       (bif Nat.blt pc 135 then (bif Nat.beq pc 133 then some (.iload 5, 2, 5, 0, 0, mj_u) else none) else
        (bif Nat.beq pc 135 then some (.ireturn, 1, 0, 0, 0, mj_u) else none)))))))
def m_Land_raise : mj_M := (24, prog_6_method_16_code, 12, (Option.some Jvm.ClassFile.FieldType.int), 4, 4, 418, 416, 417, 27, 136, k_Land_raise)
/-- WatershedMap.smooth()I -/
def k_W_smooth : Nat → Option mj_I := fun pc =>
  bif Nat.blt pc 4 then (bif Nat.blt pc 1 then (bif Nat.beq pc 0 then some (.aload_n 0, 1, 0, 0, 0, mj_u) else none) else
   (bif Nat.beq pc 1 then some (.getfield 10, 3, 8, 0, 266, .null) else none)) else
  (bif Nat.blt pc 7 then (bif Nat.beq pc 4 then some (.invokevirtual 97, 3, 26, 0, 423, mj_u) else none) else
   (bif Nat.beq pc 7 then some (.ireturn, 1, 0, 0, 0, mj_u) else none))
def m_W_smooth : mj_M := (25, prog_1_method_7_code, 1, (Option.some Jvm.ClassFile.FieldType.int), 8, 0, 422, 420, 421, 26, 8, k_W_smooth)
/-- WatershedMap$Land.soften()I -/
def k_Land_soften : Nat → Option mj_I := fun pc =>
  bif Nat.blt pc 61 then (bif Nat.blt pc 27 then (bif Nat.blt pc 15 then (bif Nat.blt pc 4 then (bif Nat.blt pc 2 then (bif Nat.blt pc 1 then (bif Nat.beq pc 0 then some (.iconst 0, 1, 0, 0, 0, .int 0) else none) else
       (bif Nat.beq pc 1 then some (.istore_n 1, 1, 1, 0, 0, mj_u) else none)) else
      (bif Nat.blt pc 3 then (bif Nat.beq pc 2 then some (.iload_n 1, 1, 1, 0, 0, mj_u) else none) else
       (bif Nat.beq pc 3 then some (.aload_n 0, 1, 0, 0, 0, mj_u) else none))) else
     (bif Nat.blt pc 10 then (bif Nat.blt pc 7 then (bif Nat.beq pc 4 then some (.getfield 28, 3, 4, 5, 73, .int 0) else none) else
       (bif Nat.beq pc 7 then some (.if_icmp .ge 69, 3, 76, 0, 0, mj_u) else none)) else
      (bif Nat.blt pc 11 then (bif Nat.beq pc 10 then some (.iconst 4, 1, 0, 0, 0, .int 4) else none) else
       (bif Nat.blt pc 12 then (bif Nat.beq pc 11 then some (.aload_n 0, 1, 0, 0, 0, mj_u) else none) else
        (bif Nat.beq pc 12 then some (.getfield 9, 3, 4, 0, 57, .null) else none))))) else
    (bif Nat.blt pc 19 then (bif Nat.blt pc 17 then (bif Nat.blt pc 16 then (bif Nat.beq pc 15 then some (.iload_n 1, 1, 1, 0, 0, mj_u) else none) else
       (bif Nat.beq pc 16 then some (.iaload, 1, 0, 0, 0, mj_u) else none)) else
      (bif Nat.blt pc 18 then (bif Nat.beq pc 17 then some (.imul, 1, 0, 0, 0, mj_u) else none) else
       (bif Nat.beq pc 18 then some (.istore_n 2, 1, 2, 0, 0, mj_u) else none))) else
     (bif Nat.blt pc 21 then (bif Nat.blt pc 20 then (bif Nat.beq pc 19 then some (.iconst 0, 1, 0, 0, 0, .int 0) else none) else
       (bif Nat.beq pc 20 then some (.istore_n 3, 1, 3, 0, 0, mj_u) else none)) else
      (bif Nat.blt pc 22 then (bif Nat.beq pc 21 then some (.iload_n 3, 1, 3, 0, 0, mj_u) else none) else
       (bif Nat.blt pc 24 then (bif Nat.beq pc 22 then some (.bipush 8, 2, 0, 0, 0, .int 8) else none) else
        (bif Nat.beq pc 24 then some (.if_icmp .ge 36, 3, 60, 0, 0, mj_u) else none)))))) else
   (bif Nat.blt pc 42 then (bif Nat.blt pc 33 then (bif Nat.blt pc 29 then (bif Nat.blt pc 28 then (bif Nat.beq pc 27 then some (.aload_n 0, 1, 0, 0, 0, mj_u) else none) else
       (bif Nat.beq pc 28 then some (.iload_n 1, 1, 1, 0, 0, mj_u) else none)) else
      (bif Nat.blt pc 30 then (bif Nat.beq pc 29 then some (.iload_n 3, 1, 3, 0, 0, mj_u) else none) else
       (bif Nat.beq pc 30 then some (.invokevirtual 55, 3, 27, 0, 427, mj_u) else none))) else
     (bif Nat.blt pc 36 then (bif Nat.blt pc 35 then (bif Nat.beq pc 33 then some (.istore 4, 2, 4, 0, 0, mj_u) else none) else
       (bif Nat.beq pc 35 then some (.iload_n 2, 1, 2, 0, 0, mj_u) else none)) else
      (bif Nat.blt pc 37 then (bif Nat.beq pc 36 then some (.aload_n 0, 1, 0, 0, 0, mj_u) else none) else
       (bif Nat.blt pc 40 then (bif Nat.beq pc 37 then some (.getfield 9, 3, 4, 0, 57, .null) else none) else
        (bif Nat.beq pc 40 then some (.iload 4, 2, 4, 0, 0, mj_u) else none))))) else
    (bif Nat.blt pc 52 then (bif Nat.blt pc 46 then (bif Nat.blt pc 45 then (bif Nat.beq pc 42 then some (.ifCond .ge 7, 3, 49, 0, 0, mj_u) else none) else
       (bif Nat.beq pc 45 then some (.iload_n 1, 1, 1, 0, 0, mj_u) else none)) else
      (bif Nat.blt pc 49 then (bif Nat.beq pc 46 then some (.goto 5, 3, 51, 0, 0, mj_u) else none) else
       (bif Nat.blt pc 51 then (bif Nat.beq pc 49 then some (.iload 4, 2, 4, 0, 0, mj_u) else none) else
        (bif Nat.beq pc 51 then some (.iaload, 1, 0, 0, 0, mj_u) else none)))) else
     (bif Nat.blt pc 54 then (bif Nat.blt pc 53 then (bif Nat.beq pc 52 then some (.iadd, 1, 0, 0, 0, mj_u) else none) else
       (bif Nat.beq pc 53 then some (.istore_n 2, 1, 2, 0, 0, mj_u) else none)) else
      (bif Nat.blt pc 57 then (bif Nat.beq pc 54 then some (.iinc 3 2, 3, 3, 0, 0, .int 2) else none) else
       (bif Nat.blt pc 60 then (bif Nat.beq pc 57 then some (.goto (-36), 3, 21, 0, 0, mj_u) else none) else
        (bif Nat.beq pc 60 then some (.aload_n 0, 1, 0, 0, 0, mj_u) else none))))))) else
  (bif Nat.blt pc 91 then (bif Nat.blt pc 77 then (bif Nat.blt pc 68 then (bif Nat.blt pc 65 then (bif Nat.blt pc 64 then (bif Nat.beq pc 61 then some (.getfield 15, 3, 4, 1, 63, .null) else none) else
       (bif Nat.beq pc 64 then some (.iload_n 1, 1, 1, 0, 0, mj_u) else none)) else
      (bif Nat.blt pc 66 then (bif Nat.beq pc 65 then some (.iload_n 2, 1, 2, 0, 0, mj_u) else none) else
       (bif Nat.beq pc 66 then some (.bipush 8, 2, 0, 0, 0, .int 8) else none))) else
     (bif Nat.blt pc 70 then (bif Nat.blt pc 69 then (bif Nat.beq pc 68 then some (.idiv, 1, 0, 0, 0, mj_u) else none) else
       (bif Nat.beq pc 69 then some (.iastore, 1, 0, 0, 0, mj_u) else none)) else
      (bif Nat.blt pc 73 then (bif Nat.beq pc 70 then some (.iinc 1 1, 3, 1, 0, 0, .int 1) else none) else
       (bif Nat.blt pc 76 then (bif Nat.beq pc 73 then some (.goto (-71), 3, 2, 0, 0, mj_u) else none) else
        (bif Nat.beq pc 76 then some (.iconst 0, 1, 0, 0, 0, .int 0) else none))))) else
    (bif Nat.blt pc 82 then (bif Nat.blt pc 79 then (bif Nat.blt pc 78 then (bif Nat.beq pc 77 then some (.istore_n 1, 1, 1, 0, 0, mj_u) else none) else
       (bif Nat.beq pc 78 then some (.iconst 0, 1, 0, 0, 0, .int 0) else none)) else
      (bif Nat.blt pc 80 then (bif Nat.beq pc 79 then some (.istore_n 2, 1, 2, 0, 0, mj_u) else none) else
       (bif Nat.blt pc 81 then (bif Nat.beq pc 80 then some (.iload_n 2, 1, 2, 0, 0, mj_u) else none) else
        (bif Nat.beq pc 81 then some (.aload_n 0, 1, 0, 0, 0, mj_u) else none)))) else
     (bif Nat.blt pc 88 then (bif Nat.blt pc 85 then (bif Nat.beq pc 82 then some (.getfield 28, 3, 4, 5, 73, .int 0) else none) else
       (bif Nat.beq pc 85 then some (.if_icmp .ge 37, 3, 122, 0, 0, mj_u) else none)) else
      (bif Nat.blt pc 89 then (bif Nat.beq pc 88 then some (.iload_n 1, 1, 1, 0, 0, mj_u) else none) else
       (bif Nat.blt pc 90 then (bif Nat.beq pc 89 then some (.aload_n 0, 1, 0, 0, 0, mj_u) else none) else
        (bif Nat.beq pc 90 then some (.iload_n 2, 1, 2, 0, 0, mj_u) else none)))))) else
   (bif Nat.blt pc 106 then (bif Nat.blt pc 97 then (bif Nat.blt pc 95 then (bif Nat.blt pc 92 then (bif Nat.beq pc 91 then some (.aload_n 0, 1, 0, 0, 0, mj_u) else none) else
       (bif Nat.beq pc 92 then some (.getfield 15, 3, 4, 1, 63, .null) else none)) else
      (bif Nat.blt pc 96 then (bif Nat.beq pc 95 then some (.iload_n 2, 1, 2, 0, 0, mj_u) else none) else
       (bif Nat.beq pc 96 then some (.iaload, 1, 0, 0, 0, mj_u) else none))) else
     (bif Nat.blt pc 101 then (bif Nat.blt pc 100 then (bif Nat.beq pc 97 then some (.invokevirtual 80, 3, 18, 0, 403, mj_u) else none) else
       (bif Nat.beq pc 100 then some (.aload_n 0, 1, 0, 0, 0, mj_u) else none)) else
      (bif Nat.blt pc 104 then (bif Nat.beq pc 101 then some (.getfield 15, 3, 4, 1, 63, .null) else none) else
       (bif Nat.blt pc 105 then (bif Nat.beq pc 104 then some (.iload_n 2, 1, 2, 0, 0, mj_u) else none) else
        (bif Nat.beq pc 105 then some (.iaload, 1, 0, 0, 0, mj_u) else none))))) else
    (bif Nat.blt pc 115 then (bif Nat.blt pc 110 then (bif Nat.blt pc 109 then (bif Nat.beq pc 106 then some (.if_icmp .eq 7, 3, 113, 0, 0, mj_u) else none) else
       (bif Nat.beq pc 109 then some (.iconst 1, 1, 0, 0, 0, .int 1) else none)) else
      (bif Nat.blt pc 113 then (bif Nat.beq pc 110 then some (.goto 4, 3, 114, 0, 0, mj_u) else none) else
       (bif Nat.blt pc 114 then (bif Nat.beq pc 113 then some (.iconst 0, 1, 0, 0, 0, .int 0) else none) else
        (bif Nat.beq pc 114 then some (.iadd, 1, 0, 0, 0, mj_u) else none)))) else
     (bif Nat.blt pc 119 then (bif Nat.blt pc 116 then (bif Nat.beq pc 115 then some (.istore_n 1, 1, 1, 0, 0, mj_u) else none) else
       (bif Nat.beq pc 116 then some (.iinc 2 1, 3, 2, 0, 0, .int 1) else none)) else
      (bif Nat.blt pc 122 then (bif Nat.beq pc 119 then some (.goto (-39), 3, 80, 0, 0, mj_u) else none) else
       (bif Nat.blt pc 123 then (bif Nat.beq pc 122 then some (.iload_n 1, 1, 1, 0, 0, mj_u) else none) else
        (bif Nat.beq pc 123 then some (.ireturn, 1, 0, 0, 0, mj_u) else none)))))))
def m_Land_soften : mj_M := (26, prog_6_method_20_code, 5, (Option.some Jvm.ClassFile.FieldType.int), 4, 0, 426, 424, 425, 27, 124, k_Land_soften)
/-- WatershedMap$Land.neighbour(II)I -/
def k_Land_neighbour : Nat → Option mj_I := fun pc =>
  bif Nat.blt pc 7 then (bif Nat.blt pc 4 then (bif Nat.blt pc 1 then (bif Nat.beq pc 0 then some (.aload_n 0, 1, 0, 0, 0, mj_u) else none) else
    (bif Nat.beq pc 1 then some (.getfield 18, 3, 4, 2, 64, .null) else none)) else
   (bif Nat.blt pc 5 then (bif Nat.beq pc 4 then some (.iload_n 1, 1, 1, 0, 0, mj_u) else none) else
    (bif Nat.beq pc 5 then some (.bipush 8, 2, 0, 0, 0, .int 8) else none))) else
  (bif Nat.blt pc 9 then (bif Nat.blt pc 8 then (bif Nat.beq pc 7 then some (.imul, 1, 0, 0, 0, mj_u) else none) else
    (bif Nat.beq pc 8 then some (.iload_n 2, 1, 2, 0, 0, mj_u) else none)) else
   (bif Nat.blt pc 10 then (bif Nat.beq pc 9 then some (.iadd, 1, 0, 0, 0, mj_u) else none) else
    (bif Nat.blt pc 11 then (bif Nat.beq pc 10 then some (.iaload, 1, 0, 0, 0, mj_u) else none) else
     (bif Nat.beq pc 11 then some (.ireturn, 1, 0, 0, 0, mj_u) else none))))
def m_Land_neighbour : mj_M := (27, prog_6_method_6_code, 3, (Option.some Jvm.ClassFile.FieldType.int), 4, 2, 430, 428, 429, 27, 12, k_Land_neighbour)
/-- WatershedMap.wear(I)I -/
def k_W_wear : Nat → Option mj_I := fun pc =>
  bif Nat.blt pc 15 then (bif Nat.blt pc 7 then (bif Nat.blt pc 2 then (bif Nat.blt pc 1 then (bif Nat.beq pc 0 then some (.iload_n 1, 1, 1, 0, 0, mj_u) else none) else
     (bif Nat.beq pc 1 then some (.iconst 1, 1, 0, 0, 0, .int 1) else none)) else
    (bif Nat.blt pc 4 then (bif Nat.beq pc 2 then some (.bipush 50, 2, 0, 0, 0, .int 50) else none) else
     (bif Nat.beq pc 4 then some (.invokestatic 65, 3, 15, 0, 295, mj_u) else none))) else
   (bif Nat.blt pc 11 then (bif Nat.blt pc 8 then (bif Nat.beq pc 7 then some (.aload_n 0, 1, 0, 0, 0, mj_u) else none) else
     (bif Nat.beq pc 8 then some (.getfield 21, 3, 8, 1, 267, .null) else none)) else
    (bif Nat.blt pc 12 then (bif Nat.beq pc 11 then some (.aload_n 0, 1, 0, 0, 0, mj_u) else none) else
     (bif Nat.beq pc 12 then some (.getfield 57, 3, 8, 7, 273, .int 0) else none)))) else
  (bif Nat.blt pc 23 then (bif Nat.blt pc 19 then (bif Nat.blt pc 18 then (bif Nat.beq pc 15 then some (.invokevirtual 100, 3, 29, 0, 435, mj_u) else none) else
     (bif Nat.beq pc 18 then some (.aload_n 0, 1, 0, 0, 0, mj_u) else none)) else
    (bif Nat.blt pc 22 then (bif Nat.beq pc 19 then some (.getfield 10, 3, 8, 0, 266, .null) else none) else
     (bif Nat.beq pc 22 then some (.aload_n 0, 1, 0, 0, 0, mj_u) else none))) else
   (bif Nat.blt pc 27 then (bif Nat.blt pc 26 then (bif Nat.beq pc 23 then some (.getfield 21, 3, 8, 1, 267, .null) else none) else
     (bif Nat.beq pc 26 then some (.iload_n 1, 1, 1, 0, 0, mj_u) else none)) else
    (bif Nat.blt pc 30 then (bif Nat.beq pc 27 then some (.invokevirtual 104, 3, 37, 0, 469, mj_u) else none) else
     (bif Nat.beq pc 30 then some (.ireturn, 1, 0, 0, 0, mj_u) else none))))
def m_W_wear : mj_M := (28, prog_1_method_8_code, 2, (Option.some Jvm.ClassFile.FieldType.int), 8, 1, 434, 432, 433, 26, 31, k_W_wear)
/-- WatershedMap$Streams.run(I)V -/
def k_Streams_run : Nat → Option mj_I := fun pc =>
  bif Nat.blt pc 40 then (bif Nat.blt pc 21 then (bif Nat.blt pc 7 then (bif Nat.blt pc 2 then (bif Nat.blt pc 1 then (bif Nat.beq pc 0 then some (.iconst 0, 1, 0, 0, 0, .int 0) else none) else
      (bif Nat.beq pc 1 then some (.istore_n 2, 1, 2, 0, 0, mj_u) else none)) else
     (bif Nat.blt pc 3 then (bif Nat.beq pc 2 then some (.iload_n 2, 1, 2, 0, 0, mj_u) else none) else
      (bif Nat.blt pc 4 then (bif Nat.beq pc 3 then some (.aload_n 0, 1, 0, 0, 0, mj_u) else none) else
       (bif Nat.beq pc 4 then some (.getfield 43, 3, 6, 0, 97, .null) else none)))) else
    (bif Nat.blt pc 14 then (bif Nat.blt pc 10 then (bif Nat.beq pc 7 then some (.getfield 47, 3, 4, 5, 72, .int 0) else none) else
      (bif Nat.blt pc 13 then (bif Nat.beq pc 10 then some (.if_icmp .ge 14, 3, 24, 0, 0, mj_u) else none) else
       (bif Nat.beq pc 13 then some (.aload_n 0, 1, 0, 0, 0, mj_u) else none))) else
     (bif Nat.blt pc 15 then (bif Nat.beq pc 14 then some (.iload_n 2, 1, 2, 0, 0, mj_u) else none) else
      (bif Nat.blt pc 18 then (bif Nat.beq pc 15 then some (.invokevirtual 53, 3, 30, 0, 439, mj_u) else none) else
       (bif Nat.beq pc 18 then some (.iinc 2 1, 3, 2, 0, 0, .int 1) else none))))) else
   (bif Nat.blt pc 30 then (bif Nat.blt pc 25 then (bif Nat.blt pc 24 then (bif Nat.beq pc 21 then some (.goto (-19), 3, 2, 0, 0, mj_u) else none) else
      (bif Nat.beq pc 24 then some (.aload_n 0, 1, 0, 0, 0, mj_u) else none)) else
     (bif Nat.blt pc 28 then (bif Nat.beq pc 25 then some (.invokevirtual 57, 3, 33, 0, 451, mj_u) else none) else
      (bif Nat.blt pc 29 then (bif Nat.beq pc 28 then some (.iconst 0, 1, 0, 0, 0, .int 0) else none) else
       (bif Nat.beq pc 29 then some (.istore_n 2, 1, 2, 0, 0, mj_u) else none)))) else
    (bif Nat.blt pc 35 then (bif Nat.blt pc 31 then (bif Nat.beq pc 30 then some (.iload_n 2, 1, 2, 0, 0, mj_u) else none) else
      (bif Nat.blt pc 32 then (bif Nat.beq pc 31 then some (.aload_n 0, 1, 0, 0, 0, mj_u) else none) else
       (bif Nat.beq pc 32 then some (.getfield 60, 3, 6, 11, 113, .int 0) else none))) else
     (bif Nat.blt pc 38 then (bif Nat.beq pc 35 then some (.if_icmp .ge 20, 3, 55, 0, 0, mj_u) else none) else
      (bif Nat.blt pc 39 then (bif Nat.beq pc 38 then some (.aload_n 0, 1, 0, 0, 0, mj_u) else none) else
       (bif Nat.beq pc 39 then some (.aload_n 0, 1, 0, 0, 0, mj_u) else none)))))) else
  (bif Nat.blt pc 61 then (bif Nat.blt pc 49 then (bif Nat.blt pc 44 then (bif Nat.blt pc 43 then (bif Nat.beq pc 40 then some (.getfield 40, 3, 6, 10, 112, .null) else none) else
      (bif Nat.beq pc 43 then some (.iload_n 2, 1, 2, 0, 0, mj_u) else none)) else
     (bif Nat.blt pc 45 then (bif Nat.beq pc 44 then some (.iaload, 1, 0, 0, 0, mj_u) else none) else
      (bif Nat.blt pc 46 then (bif Nat.beq pc 45 then some (.iload_n 1, 1, 1, 0, 0, mj_u) else none) else
       (bif Nat.beq pc 46 then some (.invokevirtual 63, 3, 35, 0, 460, mj_u) else none)))) else
    (bif Nat.blt pc 56 then (bif Nat.blt pc 52 then (bif Nat.beq pc 49 then some (.iinc 2 1, 3, 2, 0, 0, .int 1) else none) else
      (bif Nat.blt pc 55 then (bif Nat.beq pc 52 then some (.goto (-22), 3, 30, 0, 0, mj_u) else none) else
       (bif Nat.beq pc 55 then some (.aload_n 0, 1, 0, 0, 0, mj_u) else none))) else
     (bif Nat.blt pc 59 then (bif Nat.beq pc 56 then some (.getfield 60, 3, 6, 11, 113, .int 0) else none) else
      (bif Nat.blt pc 60 then (bif Nat.beq pc 59 then some (.iconst 1, 1, 0, 0, 0, .int 1) else none) else
       (bif Nat.beq pc 60 then some (.isub, 1, 0, 0, 0, mj_u) else none))))) else
   (bif Nat.blt pc 71 then (bif Nat.blt pc 66 then (bif Nat.blt pc 62 then (bif Nat.beq pc 61 then some (.istore_n 2, 1, 2, 0, 0, mj_u) else none) else
      (bif Nat.blt pc 63 then (bif Nat.beq pc 62 then some (.iload_n 2, 1, 2, 0, 0, mj_u) else none) else
       (bif Nat.beq pc 63 then some (.ifCond .lt 19, 3, 82, 0, 0, mj_u) else none))) else
     (bif Nat.blt pc 67 then (bif Nat.beq pc 66 then some (.aload_n 0, 1, 0, 0, 0, mj_u) else none) else
      (bif Nat.blt pc 68 then (bif Nat.beq pc 67 then some (.aload_n 0, 1, 0, 0, 0, mj_u) else none) else
       (bif Nat.beq pc 68 then some (.getfield 40, 3, 6, 10, 112, .null) else none)))) else
    (bif Nat.blt pc 76 then (bif Nat.blt pc 72 then (bif Nat.beq pc 71 then some (.iload_n 2, 1, 2, 0, 0, mj_u) else none) else
      (bif Nat.blt pc 73 then (bif Nat.beq pc 72 then some (.iaload, 1, 0, 0, 0, mj_u) else none) else
       (bif Nat.beq pc 73 then some (.invokevirtual 67, 3, 36, 0, 465, mj_u) else none))) else
     (bif Nat.blt pc 79 then (bif Nat.beq pc 76 then some (.iinc 2 (-1), 3, 2, 0, 0, .int (-1)) else none) else
      (bif Nat.blt pc 82 then (bif Nat.beq pc 79 then some (.goto (-17), 3, 62, 0, 0, mj_u) else none) else
       (bif Nat.beq pc 82 then some (.return_, 1, 0, 0, 0, mj_u) else none))))))
def m_Streams_run : mj_M := (29, prog_8_method_2_code, 3, (Option.none : Option Jvm.ClassFile.FieldType), 6, 1, 438, 436, 437, 28, 83, k_Streams_run)
/-- WatershedMap$Streams.chooseDirection(I)V -/
def k_Streams_chooseDirection : Nat → Option mj_I := fun pc =>
  bif Nat.blt pc 61 then (bif Nat.blt pc 31 then (bif Nat.blt pc 12 then (bif Nat.blt pc 6 then (bif Nat.blt pc 2 then (bif Nat.blt pc 1 then (bif Nat.beq pc 0 then some (.iconst 0, 1, 0, 0, 0, .int 0) else none) else
       (bif Nat.beq pc 1 then some (.istore_n 2, 1, 2, 0, 0, mj_u) else none)) else
      (bif Nat.blt pc 3 then (bif Nat.beq pc 2 then some (.aload_n 0, 1, 0, 0, 0, mj_u) else none) else
       (bif Nat.beq pc 3 then some (.getfield 9, 3, 6, 1, 98, .null) else none))) else
     (bif Nat.blt pc 8 then (bif Nat.blt pc 7 then (bif Nat.beq pc 6 then some (.iload_n 1, 1, 1, 0, 0, mj_u) else none) else
       (bif Nat.beq pc 7 then some (.aload_n 0, 1, 0, 0, 0, mj_u) else none)) else
      (bif Nat.blt pc 11 then (bif Nat.beq pc 8 then some (.getfield 43, 3, 6, 0, 97, .null) else none) else
       (bif Nat.beq pc 11 then some (.iload_n 1, 1, 1, 0, 0, mj_u) else none)))) else
    (bif Nat.blt pc 23 then (bif Nat.blt pc 18 then (bif Nat.blt pc 15 then (bif Nat.beq pc 12 then some (.invokevirtual 70, 3, 31, 0, 443, mj_u) else none) else
       (bif Nat.beq pc 15 then some (.ifCond .eq 8, 3, 23, 0, 0, mj_u) else none)) else
      (bif Nat.blt pc 20 then (bif Nat.beq pc 18 then some (.bipush 8, 2, 0, 0, 0, .int 8) else none) else
       (bif Nat.beq pc 20 then some (.goto 5, 3, 25, 0, 0, mj_u) else none))) else
     (bif Nat.blt pc 26 then (bif Nat.blt pc 25 then (bif Nat.beq pc 23 then some (.bipush 9, 2, 0, 0, 0, .int 9) else none) else
       (bif Nat.beq pc 25 then some (.iastore, 1, 0, 0, 0, mj_u) else none)) else
      (bif Nat.blt pc 27 then (bif Nat.beq pc 26 then some (.aload_n 0, 1, 0, 0, 0, mj_u) else none) else
       (bif Nat.blt pc 30 then (bif Nat.beq pc 27 then some (.getfield 15, 3, 6, 2, 99, .null) else none) else
        (bif Nat.beq pc 30 then some (.iload_n 1, 1, 1, 0, 0, mj_u) else none)))))) else
   (bif Nat.blt pc 42 then (bif Nat.blt pc 35 then (bif Nat.blt pc 33 then (bif Nat.blt pc 32 then (bif Nat.beq pc 31 then some (.iconst (-1), 1, 0, 0, 0, .int (-1)) else none) else
       (bif Nat.beq pc 32 then some (.iastore, 1, 0, 0, 0, mj_u) else none)) else
      (bif Nat.blt pc 34 then (bif Nat.beq pc 33 then some (.iconst 0, 1, 0, 0, 0, .int 0) else none) else
       (bif Nat.beq pc 34 then some (.istore_n 3, 1, 3, 0, 0, mj_u) else none))) else
     (bif Nat.blt pc 38 then (bif Nat.blt pc 36 then (bif Nat.beq pc 35 then some (.iload_n 3, 1, 3, 0, 0, mj_u) else none) else
       (bif Nat.beq pc 36 then some (.bipush 8, 2, 0, 0, 0, .int 8) else none)) else
      (bif Nat.blt pc 41 then (bif Nat.beq pc 38 then some (.if_icmp .ge 86, 3, 124, 0, 0, mj_u) else none) else
       (bif Nat.beq pc 41 then some (.aload_n 0, 1, 0, 0, 0, mj_u) else none)))) else
    (bif Nat.blt pc 50 then (bif Nat.blt pc 46 then (bif Nat.blt pc 45 then (bif Nat.beq pc 42 then some (.getfield 43, 3, 6, 0, 97, .null) else none) else
       (bif Nat.beq pc 45 then some (.iload_n 1, 1, 1, 0, 0, mj_u) else none)) else
      (bif Nat.blt pc 47 then (bif Nat.beq pc 46 then some (.iload_n 3, 1, 3, 0, 0, mj_u) else none) else
       (bif Nat.beq pc 47 then some (.invokevirtual 74, 3, 27, 0, 447, mj_u) else none))) else
     (bif Nat.blt pc 54 then (bif Nat.blt pc 52 then (bif Nat.beq pc 50 then some (.istore 4, 2, 4, 0, 0, mj_u) else none) else
       (bif Nat.beq pc 52 then some (.iload 4, 2, 4, 0, 0, mj_u) else none)) else
      (bif Nat.blt pc 57 then (bif Nat.beq pc 54 then some (.ifCond .lt 64, 3, 118, 0, 0, mj_u) else none) else
       (bif Nat.blt pc 58 then (bif Nat.beq pc 57 then some (.aload_n 0, 1, 0, 0, 0, mj_u) else none) else
        (bif Nat.beq pc 58 then some (.getfield 43, 3, 6, 0, 97, .null) else none))))))) else
  (bif Nat.blt pc 94 then (bif Nat.blt pc 76 then (bif Nat.blt pc 67 then (bif Nat.blt pc 65 then (bif Nat.blt pc 64 then (bif Nat.beq pc 61 then some (.getfield 78, 3, 4, 0, 61, .null) else none) else
       (bif Nat.beq pc 64 then some (.iload_n 1, 1, 1, 0, 0, mj_u) else none)) else
      (bif Nat.blt pc 66 then (bif Nat.beq pc 65 then some (.iaload, 1, 0, 0, 0, mj_u) else none) else
       (bif Nat.beq pc 66 then some (.aload_n 0, 1, 0, 0, 0, mj_u) else none))) else
     (bif Nat.blt pc 73 then (bif Nat.blt pc 70 then (bif Nat.beq pc 67 then some (.getfield 43, 3, 6, 0, 97, .null) else none) else
       (bif Nat.beq pc 70 then some (.getfield 78, 3, 4, 0, 61, .null) else none)) else
      (bif Nat.blt pc 75 then (bif Nat.beq pc 73 then some (.iload 4, 2, 4, 0, 0, mj_u) else none) else
       (bif Nat.beq pc 75 then some (.iaload, 1, 0, 0, 0, mj_u) else none)))) else
    (bif Nat.blt pc 84 then (bif Nat.blt pc 78 then (bif Nat.blt pc 77 then (bif Nat.beq pc 76 then some (.isub, 1, 0, 0, 0, mj_u) else none) else
       (bif Nat.beq pc 77 then some (.iload_n 3, 1, 3, 0, 0, mj_u) else none)) else
      (bif Nat.blt pc 81 then (bif Nat.beq pc 78 then some (.invokestatic 81, 3, 32, 0, 448, mj_u) else none) else
       (bif Nat.beq pc 81 then some (.ifCond .eq 8, 3, 89, 0, 0, mj_u) else none))) else
     (bif Nat.blt pc 89 then (bif Nat.blt pc 86 then (bif Nat.beq pc 84 then some (.bipush 7, 2, 0, 0, 0, .int 7) else none) else
       (bif Nat.beq pc 86 then some (.goto 5, 3, 91, 0, 0, mj_u) else none)) else
      (bif Nat.blt pc 91 then (bif Nat.beq pc 89 then some (.bipush 10, 2, 0, 0, 0, .int 10) else none) else
       (bif Nat.blt pc 92 then (bif Nat.beq pc 91 then some (.imul, 1, 0, 0, 0, mj_u) else none) else
        (bif Nat.beq pc 92 then some (.istore 5, 2, 5, 0, 0, mj_u) else none)))))) else
   (bif Nat.blt pc 109 then (bif Nat.blt pc 102 then (bif Nat.blt pc 97 then (bif Nat.blt pc 96 then (bif Nat.beq pc 94 then some (.iload 5, 2, 5, 0, 0, mj_u) else none) else
       (bif Nat.beq pc 96 then some (.iload_n 2, 1, 2, 0, 0, mj_u) else none)) else
      (bif Nat.blt pc 100 then (bif Nat.beq pc 97 then some (.if_icmp .le 21, 3, 118, 0, 0, mj_u) else none) else
       (bif Nat.beq pc 100 then some (.iload 5, 2, 5, 0, 0, mj_u) else none))) else
     (bif Nat.blt pc 104 then (bif Nat.blt pc 103 then (bif Nat.beq pc 102 then some (.istore_n 2, 1, 2, 0, 0, mj_u) else none) else
       (bif Nat.beq pc 103 then some (.aload_n 0, 1, 0, 0, 0, mj_u) else none)) else
      (bif Nat.blt pc 107 then (bif Nat.beq pc 104 then some (.getfield 9, 3, 6, 1, 98, .null) else none) else
       (bif Nat.blt pc 108 then (bif Nat.beq pc 107 then some (.iload_n 1, 1, 1, 0, 0, mj_u) else none) else
        (bif Nat.beq pc 108 then some (.iload_n 3, 1, 3, 0, 0, mj_u) else none))))) else
    (bif Nat.blt pc 115 then (bif Nat.blt pc 111 then (bif Nat.blt pc 110 then (bif Nat.beq pc 109 then some (.iastore, 1, 0, 0, 0, mj_u) else none) else
       (bif Nat.beq pc 110 then some (.aload_n 0, 1, 0, 0, 0, mj_u) else none)) else
      (bif Nat.blt pc 114 then (bif Nat.beq pc 111 then some (.getfield 15, 3, 6, 2, 99, .null) else none) else
       (bif Nat.beq pc 114 then some (.iload_n 1, 1, 1, 0, 0, mj_u) else none))) else
     (bif Nat.blt pc 118 then (bif Nat.blt pc 117 then (bif Nat.beq pc 115 then some (.iload 4, 2, 4, 0, 0, mj_u) else none) else
       (bif Nat.beq pc 117 then some (.iastore, 1, 0, 0, 0, mj_u) else none)) else
      (bif Nat.blt pc 121 then (bif Nat.beq pc 118 then some (.iinc 3 1, 3, 3, 0, 0, .int 1) else none) else
       (bif Nat.blt pc 124 then (bif Nat.beq pc 121 then some (.goto (-86), 3, 35, 0, 0, mj_u) else none) else
        (bif Nat.beq pc 124 then some (.return_, 1, 0, 0, 0, mj_u) else none)))))))
def m_Streams_chooseDirection : mj_M := (30, prog_8_method_3_code, 6, (Option.none : Option Jvm.ClassFile.FieldType), 6, 1, 442, 441, 3, 28, 125, k_Streams_chooseDirection)
/-- WatershedMap$Land.atEdge(I)Z -/
def k_Land_atEdge : Nat → Option mj_I := fun pc =>
  bif Nat.blt pc 16 then (bif Nat.blt pc 5 then (bif Nat.blt pc 2 then (bif Nat.blt pc 1 then (bif Nat.beq pc 0 then some (.iconst 0, 1, 0, 0, 0, .int 0) else none) else
     (bif Nat.beq pc 1 then some (.istore_n 2, 1, 2, 0, 0, mj_u) else none)) else
    (bif Nat.blt pc 3 then (bif Nat.beq pc 2 then some (.iconst 0, 1, 0, 0, 0, .int 0) else none) else
     (bif Nat.blt pc 4 then (bif Nat.beq pc 3 then some (.istore_n 3, 1, 3, 0, 0, mj_u) else none) else
      (bif Nat.beq pc 4 then some (.iload_n 3, 1, 3, 0, 0, mj_u) else none)))) else
   (bif Nat.blt pc 11 then (bif Nat.blt pc 7 then (bif Nat.beq pc 5 then some (.bipush 8, 2, 0, 0, 0, .int 8) else none) else
     (bif Nat.blt pc 10 then (bif Nat.beq pc 7 then some (.if_icmp .ge 28, 3, 35, 0, 0, mj_u) else none) else
      (bif Nat.beq pc 10 then some (.iload_n 2, 1, 2, 0, 0, mj_u) else none))) else
    (bif Nat.blt pc 14 then (bif Nat.beq pc 11 then some (.ifCond .ne 12, 3, 23, 0, 0, mj_u) else none) else
     (bif Nat.blt pc 15 then (bif Nat.beq pc 14 then some (.aload_n 0, 1, 0, 0, 0, mj_u) else none) else
      (bif Nat.beq pc 15 then some (.iload_n 1, 1, 1, 0, 0, mj_u) else none))))) else
  (bif Nat.blt pc 27 then (bif Nat.blt pc 20 then (bif Nat.blt pc 17 then (bif Nat.beq pc 16 then some (.iload_n 3, 1, 3, 0, 0, mj_u) else none) else
     (bif Nat.beq pc 17 then some (.invokevirtual 55, 3, 27, 0, 427, mj_u) else none)) else
    (bif Nat.blt pc 23 then (bif Nat.beq pc 20 then some (.ifCond .ge 7, 3, 27, 0, 0, mj_u) else none) else
     (bif Nat.blt pc 24 then (bif Nat.beq pc 23 then some (.iconst 1, 1, 0, 0, 0, .int 1) else none) else
      (bif Nat.beq pc 24 then some (.goto 4, 3, 28, 0, 0, mj_u) else none)))) else
   (bif Nat.blt pc 32 then (bif Nat.blt pc 28 then (bif Nat.beq pc 27 then some (.iconst 0, 1, 0, 0, 0, .int 0) else none) else
     (bif Nat.blt pc 29 then (bif Nat.beq pc 28 then some (.istore_n 2, 1, 2, 0, 0, mj_u) else none) else
      (bif Nat.beq pc 29 then some (.iinc 3 2, 3, 3, 0, 0, .int 2) else none))) else
    (bif Nat.blt pc 35 then (bif Nat.beq pc 32 then some (.goto (-28), 3, 4, 0, 0, mj_u) else none) else
     (bif Nat.blt pc 36 then (bif Nat.beq pc 35 then some (.iload_n 2, 1, 2, 0, 0, mj_u) else none) else
      (bif Nat.beq pc 36 then some (.ireturn, 1, 0, 0, 0, mj_u) else none)))))
def m_Land_atEdge : mj_M := (31, prog_6_method_7_code, 4, (Option.some Jvm.ClassFile.FieldType.boolean), 4, 1, 446, 444, 445, 27, 37, k_Land_atEdge)
/-- WatershedMap$Land.slanted(I)Z static -/
def k_Land_slanted : Nat → Option mj_I := fun pc =>
  bif Nat.blt pc 4 then (bif Nat.blt pc 2 then (bif Nat.blt pc 1 then (bif Nat.beq pc 0 then some (.iload_n 0, 1, 0, 0, 0, mj_u) else none) else
    (bif Nat.beq pc 1 then some (.iconst 2, 1, 0, 0, 0, .int 2) else none)) else
   (bif Nat.blt pc 3 then (bif Nat.beq pc 2 then some (.irem, 1, 0, 0, 0, mj_u) else none) else
    (bif Nat.beq pc 3 then some (.iconst 1, 1, 0, 0, 0, .int 1) else none))) else
  (bif Nat.blt pc 8 then (bif Nat.blt pc 7 then (bif Nat.beq pc 4 then some (.if_icmp .ne 7, 3, 11, 0, 0, mj_u) else none) else
    (bif Nat.beq pc 7 then some (.iconst 1, 1, 0, 0, 0, .int 1) else none)) else
   (bif Nat.blt pc 11 then (bif Nat.beq pc 8 then some (.goto 4, 3, 12, 0, 0, mj_u) else none) else
    (bif Nat.blt pc 12 then (bif Nat.beq pc 11 then some (.iconst 0, 1, 0, 0, 0, .int 0) else none) else
     (bif Nat.beq pc 12 then some (.ireturn, 1, 0, 0, 0, mj_u) else none))))
def m_Land_slanted : mj_M := (32, prog_6_method_8_code, 1, (Option.some Jvm.ClassFile.FieldType.boolean), 4, 1, 450, 449, 0, 27, 13, k_Land_slanted)
/-- WatershedMap$Streams.putInOrder()V -/
def k_Streams_putInOrder : Nat → Option mj_I := fun pc =>
  bif Nat.blt pc 75 then (bif Nat.blt pc 39 then (bif Nat.blt pc 18 then (bif Nat.blt pc 9 then (bif Nat.blt pc 4 then (bif Nat.blt pc 1 then (bif Nat.beq pc 0 then some (.aload_n 0, 1, 0, 0, 0, mj_u) else none) else
       (bif Nat.beq pc 1 then some (.getfield 33, 3, 6, 8, 110, .null) else none)) else
      (bif Nat.blt pc 5 then (bif Nat.beq pc 4 then some (.iconst 0, 1, 0, 0, 0, .int 0) else none) else
       (bif Nat.blt pc 8 then (bif Nat.beq pc 5 then some (.invokestatic 84, 3, 10, 0, 455, mj_u) else none) else
        (bif Nat.beq pc 8 then some (.iconst 0, 1, 0, 0, 0, .int 0) else none)))) else
     (bif Nat.blt pc 11 then (bif Nat.blt pc 10 then (bif Nat.beq pc 9 then some (.istore_n 1, 1, 1, 0, 0, mj_u) else none) else
       (bif Nat.beq pc 10 then some (.iload_n 1, 1, 1, 0, 0, mj_u) else none)) else
      (bif Nat.blt pc 12 then (bif Nat.beq pc 11 then some (.aload_n 0, 1, 0, 0, 0, mj_u) else none) else
       (bif Nat.blt pc 15 then (bif Nat.beq pc 12 then some (.getfield 43, 3, 6, 0, 97, .null) else none) else
        (bif Nat.beq pc 15 then some (.getfield 47, 3, 4, 5, 72, .int 0) else none))))) else
    (bif Nat.blt pc 27 then (bif Nat.blt pc 22 then (bif Nat.blt pc 21 then (bif Nat.beq pc 18 then some (.if_icmp .ge 33, 3, 51, 0, 0, mj_u) else none) else
       (bif Nat.beq pc 21 then some (.aload_n 0, 1, 0, 0, 0, mj_u) else none)) else
      (bif Nat.blt pc 25 then (bif Nat.beq pc 22 then some (.getfield 15, 3, 6, 2, 99, .null) else none) else
       (bif Nat.blt pc 26 then (bif Nat.beq pc 25 then some (.iload_n 1, 1, 1, 0, 0, mj_u) else none) else
        (bif Nat.beq pc 26 then some (.iaload, 1, 0, 0, 0, mj_u) else none)))) else
     (bif Nat.blt pc 34 then (bif Nat.blt pc 30 then (bif Nat.beq pc 27 then some (.ifCond .lt 18, 3, 45, 0, 0, mj_u) else none) else
       (bif Nat.blt pc 31 then (bif Nat.beq pc 30 then some (.aload_n 0, 1, 0, 0, 0, mj_u) else none) else
        (bif Nat.beq pc 31 then some (.getfield 33, 3, 6, 8, 110, .null) else none))) else
      (bif Nat.blt pc 35 then (bif Nat.beq pc 34 then some (.aload_n 0, 1, 0, 0, 0, mj_u) else none) else
       (bif Nat.blt pc 38 then (bif Nat.beq pc 35 then some (.getfield 15, 3, 6, 2, 99, .null) else none) else
        (bif Nat.beq pc 38 then some (.iload_n 1, 1, 1, 0, 0, mj_u) else none)))))) else
   (bif Nat.blt pc 56 then (bif Nat.blt pc 44 then (bif Nat.blt pc 41 then (bif Nat.blt pc 40 then (bif Nat.beq pc 39 then some (.iaload, 1, 0, 0, 0, mj_u) else none) else
       (bif Nat.beq pc 40 then some (.dup2, 1, 0, 0, 0, mj_u) else none)) else
      (bif Nat.blt pc 42 then (bif Nat.beq pc 41 then some (.iaload, 1, 0, 0, 0, mj_u) else none) else
       (bif Nat.blt pc 43 then (bif Nat.beq pc 42 then some (.iconst 1, 1, 0, 0, 0, .int 1) else none) else
        (bif Nat.beq pc 43 then some (.iadd, 1, 0, 0, 0, mj_u) else none)))) else
     (bif Nat.blt pc 51 then (bif Nat.blt pc 45 then (bif Nat.beq pc 44 then some (.iastore, 1, 0, 0, 0, mj_u) else none) else
       (bif Nat.blt pc 48 then (bif Nat.beq pc 45 then some (.iinc 1 1, 3, 1, 0, 0, .int 1) else none) else
        (bif Nat.beq pc 48 then some (.goto (-38), 3, 10, 0, 0, mj_u) else none))) else
      (bif Nat.blt pc 52 then (bif Nat.beq pc 51 then some (.aload_n 0, 1, 0, 0, 0, mj_u) else none) else
       (bif Nat.blt pc 53 then (bif Nat.beq pc 52 then some (.iconst 0, 1, 0, 0, 0, .int 0) else none) else
        (bif Nat.beq pc 53 then some (.putfield 60, 3, 6, 11, 113, .int 0) else none))))) else
    (bif Nat.blt pc 63 then (bif Nat.blt pc 58 then (bif Nat.blt pc 57 then (bif Nat.beq pc 56 then some (.iconst 0, 1, 0, 0, 0, .int 0) else none) else
       (bif Nat.beq pc 57 then some (.istore_n 1, 1, 1, 0, 0, mj_u) else none)) else
      (bif Nat.blt pc 59 then (bif Nat.beq pc 58 then some (.iload_n 1, 1, 1, 0, 0, mj_u) else none) else
       (bif Nat.blt pc 60 then (bif Nat.beq pc 59 then some (.aload_n 0, 1, 0, 0, 0, mj_u) else none) else
        (bif Nat.beq pc 60 then some (.getfield 43, 3, 6, 0, 97, .null) else none)))) else
     (bif Nat.blt pc 70 then (bif Nat.blt pc 66 then (bif Nat.beq pc 63 then some (.getfield 47, 3, 4, 5, 72, .int 0) else none) else
       (bif Nat.blt pc 69 then (bif Nat.beq pc 66 then some (.if_icmp .ge 23, 3, 89, 0, 0, mj_u) else none) else
        (bif Nat.beq pc 69 then some (.aload_n 0, 1, 0, 0, 0, mj_u) else none))) else
      (bif Nat.blt pc 73 then (bif Nat.beq pc 70 then some (.getfield 33, 3, 6, 8, 110, .null) else none) else
       (bif Nat.blt pc 74 then (bif Nat.beq pc 73 then some (.iload_n 1, 1, 1, 0, 0, mj_u) else none) else
        (bif Nat.beq pc 74 then some (.iaload, 1, 0, 0, 0, mj_u) else none))))))) else
  (bif Nat.blt pc 117 then (bif Nat.blt pc 96 then (bif Nat.blt pc 86 then (bif Nat.blt pc 79 then (bif Nat.blt pc 78 then (bif Nat.beq pc 75 then some (.ifCond .ne 8, 3, 83, 0, 0, mj_u) else none) else
       (bif Nat.beq pc 78 then some (.aload_n 0, 1, 0, 0, 0, mj_u) else none)) else
      (bif Nat.blt pc 80 then (bif Nat.beq pc 79 then some (.iload_n 1, 1, 1, 0, 0, mj_u) else none) else
       (bif Nat.blt pc 83 then (bif Nat.beq pc 80 then some (.invokevirtual 90, 3, 34, 0, 456, mj_u) else none) else
        (bif Nat.beq pc 83 then some (.iinc 1 1, 3, 1, 0, 0, .int 1) else none)))) else
     (bif Nat.blt pc 91 then (bif Nat.blt pc 89 then (bif Nat.beq pc 86 then some (.goto (-28), 3, 58, 0, 0, mj_u) else none) else
       (bif Nat.blt pc 90 then (bif Nat.beq pc 89 then some (.iconst 0, 1, 0, 0, 0, .int 0) else none) else
        (bif Nat.beq pc 90 then some (.istore_n 1, 1, 1, 0, 0, mj_u) else none))) else
      (bif Nat.blt pc 92 then (bif Nat.beq pc 91 then some (.iload_n 1, 1, 1, 0, 0, mj_u) else none) else
       (bif Nat.blt pc 93 then (bif Nat.beq pc 92 then some (.aload_n 0, 1, 0, 0, 0, mj_u) else none) else
        (bif Nat.beq pc 93 then some (.getfield 60, 3, 6, 11, 113, .int 0) else none))))) else
    (bif Nat.blt pc 107 then (bif Nat.blt pc 100 then (bif Nat.blt pc 99 then (bif Nat.beq pc 96 then some (.if_icmp .ge 56, 3, 152, 0, 0, mj_u) else none) else
       (bif Nat.beq pc 99 then some (.iload_n 1, 1, 1, 0, 0, mj_u) else none)) else
      (bif Nat.blt pc 103 then (bif Nat.beq pc 100 then some (.sipush 256, 3, 0, 0, 0, .int 256) else none) else
       (bif Nat.blt pc 106 then (bif Nat.beq pc 103 then some (.if_icmp .ge 49, 3, 152, 0, 0, mj_u) else none) else
        (bif Nat.beq pc 106 then some (.aload_n 0, 1, 0, 0, 0, mj_u) else none)))) else
     (bif Nat.blt pc 114 then (bif Nat.blt pc 110 then (bif Nat.beq pc 107 then some (.getfield 15, 3, 6, 2, 99, .null) else none) else
       (bif Nat.blt pc 111 then (bif Nat.beq pc 110 then some (.aload_n 0, 1, 0, 0, 0, mj_u) else none) else
        (bif Nat.beq pc 111 then some (.getfield 40, 3, 6, 10, 112, .null) else none))) else
      (bif Nat.blt pc 115 then (bif Nat.beq pc 114 then some (.iload_n 1, 1, 1, 0, 0, mj_u) else none) else
       (bif Nat.blt pc 116 then (bif Nat.beq pc 115 then some (.iaload, 1, 0, 0, 0, mj_u) else none) else
        (bif Nat.beq pc 116 then some (.iaload, 1, 0, 0, 0, mj_u) else none)))))) else
   (bif Nat.blt pc 132 then (bif Nat.blt pc 126 then (bif Nat.blt pc 119 then (bif Nat.blt pc 118 then (bif Nat.beq pc 117 then some (.istore_n 2, 1, 2, 0, 0, mj_u) else none) else
       (bif Nat.beq pc 118 then some (.iload_n 2, 1, 2, 0, 0, mj_u) else none)) else
      (bif Nat.blt pc 122 then (bif Nat.beq pc 119 then some (.ifCond .lt 27, 3, 146, 0, 0, mj_u) else none) else
       (bif Nat.blt pc 123 then (bif Nat.beq pc 122 then some (.aload_n 0, 1, 0, 0, 0, mj_u) else none) else
        (bif Nat.beq pc 123 then some (.getfield 33, 3, 6, 8, 110, .null) else none)))) else
     (bif Nat.blt pc 129 then (bif Nat.blt pc 127 then (bif Nat.beq pc 126 then some (.iload_n 2, 1, 2, 0, 0, mj_u) else none) else
       (bif Nat.blt pc 128 then (bif Nat.beq pc 127 then some (.dup2, 1, 0, 0, 0, mj_u) else none) else
        (bif Nat.beq pc 128 then some (.iaload, 1, 0, 0, 0, mj_u) else none))) else
      (bif Nat.blt pc 130 then (bif Nat.beq pc 129 then some (.iconst 1, 1, 0, 0, 0, .int 1) else none) else
       (bif Nat.blt pc 131 then (bif Nat.beq pc 130 then some (.isub, 1, 0, 0, 0, mj_u) else none) else
        (bif Nat.beq pc 131 then some (.iastore, 1, 0, 0, 0, mj_u) else none))))) else
    (bif Nat.blt pc 141 then (bif Nat.blt pc 136 then (bif Nat.blt pc 133 then (bif Nat.beq pc 132 then some (.aload_n 0, 1, 0, 0, 0, mj_u) else none) else
       (bif Nat.beq pc 133 then some (.getfield 33, 3, 6, 8, 110, .null) else none)) else
      (bif Nat.blt pc 137 then (bif Nat.beq pc 136 then some (.iload_n 2, 1, 2, 0, 0, mj_u) else none) else
       (bif Nat.blt pc 138 then (bif Nat.beq pc 137 then some (.iaload, 1, 0, 0, 0, mj_u) else none) else
        (bif Nat.beq pc 138 then some (.ifCond .ne 8, 3, 146, 0, 0, mj_u) else none)))) else
     (bif Nat.blt pc 146 then (bif Nat.blt pc 142 then (bif Nat.beq pc 141 then some (.aload_n 0, 1, 0, 0, 0, mj_u) else none) else
       (bif Nat.blt pc 143 then (bif Nat.beq pc 142 then some (.iload_n 2, 1, 2, 0, 0, mj_u) else none) else
        (bif Nat.beq pc 143 then some (.invokevirtual 90, 3, 34, 0, 456, mj_u) else none))) else
      (bif Nat.blt pc 149 then (bif Nat.beq pc 146 then some (.iinc 1 1, 3, 1, 0, 0, .int 1) else none) else
       (bif Nat.blt pc 152 then (bif Nat.beq pc 149 then some (.goto (-58), 3, 91, 0, 0, mj_u) else none) else
        (bif Nat.beq pc 152 then some (.return_, 1, 0, 0, 0, mj_u) else none)))))))
def m_Streams_putInOrder : mj_M := (33, prog_8_method_4_code, 3, (Option.none : Option Jvm.ClassFile.FieldType), 6, 0, 454, 453, 4, 28, 153, k_Streams_putInOrder)
/-- WatershedMap$Streams.putNext(I)V -/
def k_Streams_putNext : Nat → Option mj_I := fun pc =>
  bif Nat.blt pc 34 then (bif Nat.blt pc 19 then (bif Nat.blt pc 10 then (bif Nat.blt pc 4 then (bif Nat.blt pc 1 then (bif Nat.beq pc 0 then some (.aload_n 0, 1, 0, 0, 0, mj_u) else none) else
      (bif Nat.beq pc 1 then some (.getfield 60, 3, 6, 11, 113, .int 0) else none)) else
     (bif Nat.blt pc 7 then (bif Nat.beq pc 4 then some (.sipush 256, 3, 0, 0, 0, .int 256) else none) else
      (bif Nat.beq pc 7 then some (.if_icmp .ge 51, 3, 58, 0, 0, mj_u) else none))) else
    (bif Nat.blt pc 14 then (bif Nat.blt pc 11 then (bif Nat.beq pc 10 then some (.aload_n 0, 1, 0, 0, 0, mj_u) else none) else
      (bif Nat.beq pc 11 then some (.getfield 40, 3, 6, 10, 112, .null) else none)) else
     (bif Nat.blt pc 15 then (bif Nat.beq pc 14 then some (.aload_n 0, 1, 0, 0, 0, mj_u) else none) else
      (bif Nat.blt pc 18 then (bif Nat.beq pc 15 then some (.getfield 60, 3, 6, 11, 113, .int 0) else none) else
       (bif Nat.beq pc 18 then some (.iload_n 1, 1, 1, 0, 0, mj_u) else none))))) else
   (bif Nat.blt pc 25 then (bif Nat.blt pc 21 then (bif Nat.blt pc 20 then (bif Nat.beq pc 19 then some (.iastore, 1, 0, 0, 0, mj_u) else none) else
      (bif Nat.beq pc 20 then some (.aload_n 0, 1, 0, 0, 0, mj_u) else none)) else
     (bif Nat.blt pc 22 then (bif Nat.beq pc 21 then some (.dup, 1, 0, 0, 0, mj_u) else none) else
      (bif Nat.beq pc 22 then some (.getfield 60, 3, 6, 11, 113, .int 0) else none))) else
    (bif Nat.blt pc 27 then (bif Nat.blt pc 26 then (bif Nat.beq pc 25 then some (.iconst 1, 1, 0, 0, 0, .int 1) else none) else
      (bif Nat.beq pc 26 then some (.iadd, 1, 0, 0, 0, mj_u) else none)) else
     (bif Nat.blt pc 30 then (bif Nat.beq pc 27 then some (.putfield 60, 3, 6, 11, 113, .int 0) else none) else
      (bif Nat.blt pc 31 then (bif Nat.beq pc 30 then some (.aload_n 0, 1, 0, 0, 0, mj_u) else none) else
       (bif Nat.beq pc 31 then some (.getfield 18, 3, 6, 3, 101, .null) else none)))))) else
  (bif Nat.blt pc 45 then (bif Nat.blt pc 38 then (bif Nat.blt pc 36 then (bif Nat.blt pc 35 then (bif Nat.beq pc 34 then some (.iload_n 1, 1, 1, 0, 0, mj_u) else none) else
      (bif Nat.beq pc 35 then some (.iconst 1, 1, 0, 0, 0, .int 1) else none)) else
     (bif Nat.blt pc 37 then (bif Nat.beq pc 36 then some (.iastore, 1, 0, 0, 0, mj_u) else none) else
      (bif Nat.beq pc 37 then some (.aload_n 0, 1, 0, 0, 0, mj_u) else none))) else
    (bif Nat.blt pc 42 then (bif Nat.blt pc 41 then (bif Nat.beq pc 38 then some (.getfield 27, 3, 6, 6, 106, .null) else none) else
      (bif Nat.beq pc 41 then some (.iload_n 1, 1, 1, 0, 0, mj_u) else none)) else
     (bif Nat.blt pc 43 then (bif Nat.beq pc 42 then some (.iconst 0, 1, 0, 0, 0, .int 0) else none) else
      (bif Nat.blt pc 44 then (bif Nat.beq pc 43 then some (.iastore, 1, 0, 0, 0, mj_u) else none) else
       (bif Nat.beq pc 44 then some (.aload_n 0, 1, 0, 0, 0, mj_u) else none))))) else
   (bif Nat.blt pc 52 then (bif Nat.blt pc 49 then (bif Nat.blt pc 48 then (bif Nat.beq pc 45 then some (.getfield 30, 3, 6, 7, 108, .null) else none) else
      (bif Nat.beq pc 48 then some (.iload_n 1, 1, 1, 0, 0, mj_u) else none)) else
     (bif Nat.blt pc 50 then (bif Nat.beq pc 49 then some (.iconst 0, 1, 0, 0, 0, .int 0) else none) else
      (bif Nat.blt pc 51 then (bif Nat.beq pc 50 then some (.iastore, 1, 0, 0, 0, mj_u) else none) else
       (bif Nat.beq pc 51 then some (.aload_n 0, 1, 0, 0, 0, mj_u) else none)))) else
    (bif Nat.blt pc 56 then (bif Nat.blt pc 55 then (bif Nat.beq pc 52 then some (.getfield 36, 3, 6, 9, 111, .null) else none) else
      (bif Nat.beq pc 55 then some (.iload_n 1, 1, 1, 0, 0, mj_u) else none)) else
     (bif Nat.blt pc 57 then (bif Nat.beq pc 56 then some (.iconst 0, 1, 0, 0, 0, .int 0) else none) else
      (bif Nat.blt pc 58 then (bif Nat.beq pc 57 then some (.bastore, 1, 0, 0, 0, mj_u) else none) else
       (bif Nat.beq pc 58 then some (.return_, 1, 0, 0, 0, mj_u) else none))))))
def m_Streams_putNext : mj_M := (34, prog_8_method_5_code, 2, (Option.none : Option Jvm.ClassFile.FieldType), 6, 1, 459, 458, 5, 28, 59, k_Streams_putNext)
/-- WatershedMap$Streams.passDown(II)V -/
def k_Streams_passDown : Nat → Option mj_I := fun pc =>
  bif Nat.blt pc 87 then (bif Nat.blt pc 46 then (bif Nat.blt pc 24 then (bif Nat.blt pc 11 then (bif Nat.blt pc 5 then (bif Nat.blt pc 1 then (bif Nat.beq pc 0 then some (.aload_n 0, 1, 0, 0, 0, mj_u) else none) else
       (bif Nat.blt pc 4 then (bif Nat.beq pc 1 then some (.getfield 18, 3, 6, 3, 101, .null) else none) else
        (bif Nat.beq pc 4 then some (.iload_n 1, 1, 1, 0, 0, mj_u) else none))) else
      (bif Nat.blt pc 7 then (bif Nat.blt pc 6 then (bif Nat.beq pc 5 then some (.iaload, 1, 0, 0, 0, mj_u) else none) else
        (bif Nat.beq pc 6 then some (.iload_n 2, 1, 2, 0, 0, mj_u) else none)) else
       (bif Nat.blt pc 10 then (bif Nat.beq pc 7 then some (.if_icmp .lt 55, 3, 62, 0, 0, mj_u) else none) else
        (bif Nat.beq pc 10 then some (.aload_n 0, 1, 0, 0, 0, mj_u) else none)))) else
     (bif Nat.blt pc 16 then (bif Nat.blt pc 14 then (bif Nat.beq pc 11 then some (.getfield 36, 3, 6, 9, 111, .null) else none) else
       (bif Nat.blt pc 15 then (bif Nat.beq pc 14 then some (.iload_n 1, 1, 1, 0, 0, mj_u) else none) else
        (bif Nat.beq pc 15 then some (.baload, 1, 0, 0, 0, mj_u) else none))) else
      (bif Nat.blt pc 20 then (bif Nat.blt pc 19 then (bif Nat.beq pc 16 then some (.ifCond .ne 12, 3, 28, 0, 0, mj_u) else none) else
        (bif Nat.beq pc 19 then some (.aload_n 0, 1, 0, 0, 0, mj_u) else none)) else
       (bif Nat.blt pc 23 then (bif Nat.beq pc 20 then some (.getfield 27, 3, 6, 6, 106, .null) else none) else
        (bif Nat.beq pc 23 then some (.iload_n 1, 1, 1, 0, 0, mj_u) else none))))) else
    (bif Nat.blt pc 35 then (bif Nat.blt pc 29 then (bif Nat.blt pc 25 then (bif Nat.beq pc 24 then some (.iaload, 1, 0, 0, 0, mj_u) else none) else
       (bif Nat.blt pc 28 then (bif Nat.beq pc 25 then some (.ifCond .ne 7, 3, 32, 0, 0, mj_u) else none) else
        (bif Nat.beq pc 28 then some (.iconst 1, 1, 0, 0, 0, .int 1) else none))) else
      (bif Nat.blt pc 33 then (bif Nat.blt pc 32 then (bif Nat.beq pc 29 then some (.goto 4, 3, 33, 0, 0, mj_u) else none) else
        (bif Nat.beq pc 32 then some (.iconst 0, 1, 0, 0, 0, .int 0) else none)) else
       (bif Nat.blt pc 34 then (bif Nat.beq pc 33 then some (.istore_n 3, 1, 3, 0, 0, mj_u) else none) else
        (bif Nat.beq pc 34 then some (.aload_n 0, 1, 0, 0, 0, mj_u) else none)))) else
     (bif Nat.blt pc 40 then (bif Nat.blt pc 38 then (bif Nat.beq pc 35 then some (.getfield 27, 3, 6, 6, 106, .null) else none) else
       (bif Nat.blt pc 39 then (bif Nat.beq pc 38 then some (.iload_n 1, 1, 1, 0, 0, mj_u) else none) else
        (bif Nat.beq pc 39 then some (.dup2, 1, 0, 0, 0, mj_u) else none))) else
      (bif Nat.blt pc 42 then (bif Nat.blt pc 41 then (bif Nat.beq pc 40 then some (.iaload, 1, 0, 0, 0, mj_u) else none) else
        (bif Nat.beq pc 41 then some (.iload_n 3, 1, 3, 0, 0, mj_u) else none)) else
       (bif Nat.blt pc 45 then (bif Nat.beq pc 42 then some (.ifCond .eq 7, 3, 49, 0, 0, mj_u) else none) else
        (bif Nat.beq pc 45 then some (.iconst 1, 1, 0, 0, 0, .int 1) else none)))))) else
   (bif Nat.blt pc 66 then (bif Nat.blt pc 57 then (bif Nat.blt pc 51 then (bif Nat.blt pc 49 then (bif Nat.beq pc 46 then some (.goto 4, 3, 50, 0, 0, mj_u) else none) else
       (bif Nat.blt pc 50 then (bif Nat.beq pc 49 then some (.iconst 0, 1, 0, 0, 0, .int 0) else none) else
        (bif Nat.beq pc 50 then some (.iadd, 1, 0, 0, 0, mj_u) else none))) else
      (bif Nat.blt pc 53 then (bif Nat.blt pc 52 then (bif Nat.beq pc 51 then some (.iastore, 1, 0, 0, 0, mj_u) else none) else
        (bif Nat.beq pc 52 then some (.aload_n 0, 1, 0, 0, 0, mj_u) else none)) else
       (bif Nat.blt pc 56 then (bif Nat.beq pc 53 then some (.getfield 30, 3, 6, 7, 108, .null) else none) else
        (bif Nat.beq pc 56 then some (.iload_n 1, 1, 1, 0, 0, mj_u) else none)))) else
     (bif Nat.blt pc 60 then (bif Nat.blt pc 58 then (bif Nat.beq pc 57 then some (.dup2, 1, 0, 0, 0, mj_u) else none) else
       (bif Nat.blt pc 59 then (bif Nat.beq pc 58 then some (.iaload, 1, 0, 0, 0, mj_u) else none) else
        (bif Nat.beq pc 59 then some (.iconst 1, 1, 0, 0, 0, .int 1) else none))) else
      (bif Nat.blt pc 62 then (bif Nat.blt pc 61 then (bif Nat.beq pc 60 then some (.iadd, 1, 0, 0, 0, mj_u) else none) else
        (bif Nat.beq pc 61 then some (.iastore, 1, 0, 0, 0, mj_u) else none)) else
       (bif Nat.blt pc 63 then (bif Nat.beq pc 62 then some (.aload_n 0, 1, 0, 0, 0, mj_u) else none) else
        (bif Nat.beq pc 63 then some (.getfield 15, 3, 6, 2, 99, .null) else none))))) else
    (bif Nat.blt pc 77 then (bif Nat.blt pc 69 then (bif Nat.blt pc 67 then (bif Nat.beq pc 66 then some (.iload_n 1, 1, 1, 0, 0, mj_u) else none) else
       (bif Nat.blt pc 68 then (bif Nat.beq pc 67 then some (.iaload, 1, 0, 0, 0, mj_u) else none) else
        (bif Nat.beq pc 68 then some (.istore_n 3, 1, 3, 0, 0, mj_u) else none))) else
      (bif Nat.blt pc 73 then (bif Nat.blt pc 70 then (bif Nat.beq pc 69 then some (.iload_n 3, 1, 3, 0, 0, mj_u) else none) else
        (bif Nat.beq pc 70 then some (.ifCond .lt 110, 3, 180, 0, 0, mj_u) else none)) else
       (bif Nat.blt pc 74 then (bif Nat.beq pc 73 then some (.aload_n 0, 1, 0, 0, 0, mj_u) else none) else
        (bif Nat.beq pc 74 then some (.getfield 18, 3, 6, 3, 101, .null) else none)))) else
     (bif Nat.blt pc 81 then (bif Nat.blt pc 79 then (bif Nat.blt pc 78 then (bif Nat.beq pc 77 then some (.iload_n 3, 1, 3, 0, 0, mj_u) else none) else
        (bif Nat.beq pc 78 then some (.dup2, 1, 0, 0, 0, mj_u) else none)) else
       (bif Nat.blt pc 80 then (bif Nat.beq pc 79 then some (.iaload, 1, 0, 0, 0, mj_u) else none) else
        (bif Nat.beq pc 80 then some (.aload_n 0, 1, 0, 0, 0, mj_u) else none))) else
      (bif Nat.blt pc 85 then (bif Nat.blt pc 84 then (bif Nat.beq pc 81 then some (.getfield 18, 3, 6, 3, 101, .null) else none) else
        (bif Nat.beq pc 84 then some (.iload_n 1, 1, 1, 0, 0, mj_u) else none)) else
       (bif Nat.blt pc 86 then (bif Nat.beq pc 85 then some (.iaload, 1, 0, 0, 0, mj_u) else none) else
        (bif Nat.beq pc 86 then some (.iadd, 1, 0, 0, 0, mj_u) else none))))))) else
  (bif Nat.blt pc 134 then (bif Nat.blt pc 109 then (bif Nat.blt pc 98 then (bif Nat.blt pc 92 then (bif Nat.blt pc 88 then (bif Nat.beq pc 87 then some (.iastore, 1, 0, 0, 0, mj_u) else none) else
       (bif Nat.blt pc 89 then (bif Nat.beq pc 88 then some (.aload_n 0, 1, 0, 0, 0, mj_u) else none) else
        (bif Nat.beq pc 89 then some (.getfield 30, 3, 6, 7, 108, .null) else none))) else
      (bif Nat.blt pc 94 then (bif Nat.blt pc 93 then (bif Nat.beq pc 92 then some (.iload_n 3, 1, 3, 0, 0, mj_u) else none) else
        (bif Nat.beq pc 93 then some (.aload_n 0, 1, 0, 0, 0, mj_u) else none)) else
       (bif Nat.blt pc 97 then (bif Nat.beq pc 94 then some (.getfield 30, 3, 6, 7, 108, .null) else none) else
        (bif Nat.beq pc 97 then some (.iload_n 3, 1, 3, 0, 0, mj_u) else none)))) else
     (bif Nat.blt pc 103 then (bif Nat.blt pc 99 then (bif Nat.beq pc 98 then some (.iaload, 1, 0, 0, 0, mj_u) else none) else
       (bif Nat.blt pc 100 then (bif Nat.beq pc 99 then some (.aload_n 0, 1, 0, 0, 0, mj_u) else none) else
        (bif Nat.beq pc 100 then some (.getfield 30, 3, 6, 7, 108, .null) else none))) else
      (bif Nat.blt pc 105 then (bif Nat.blt pc 104 then (bif Nat.beq pc 103 then some (.iload_n 1, 1, 1, 0, 0, mj_u) else none) else
        (bif Nat.beq pc 104 then some (.iaload, 1, 0, 0, 0, mj_u) else none)) else
       (bif Nat.blt pc 108 then (bif Nat.beq pc 105 then some (.invokestatic 93, 3, 22, 0, 464, mj_u) else none) else
        (bif Nat.beq pc 108 then some (.iastore, 1, 0, 0, 0, mj_u) else none))))) else
    (bif Nat.blt pc 120 then (bif Nat.blt pc 114 then (bif Nat.blt pc 110 then (bif Nat.beq pc 109 then some (.aload_n 0, 1, 0, 0, 0, mj_u) else none) else
       (bif Nat.blt pc 113 then (bif Nat.beq pc 110 then some (.getfield 36, 3, 6, 9, 111, .null) else none) else
        (bif Nat.beq pc 113 then some (.iload_n 3, 1, 3, 0, 0, mj_u) else none))) else
      (bif Nat.blt pc 118 then (bif Nat.blt pc 115 then (bif Nat.beq pc 114 then some (.aload_n 0, 1, 0, 0, 0, mj_u) else none) else
        (bif Nat.beq pc 115 then some (.getfield 27, 3, 6, 6, 106, .null) else none)) else
       (bif Nat.blt pc 119 then (bif Nat.beq pc 118 then some (.iload_n 1, 1, 1, 0, 0, mj_u) else none) else
        (bif Nat.beq pc 119 then some (.iaload, 1, 0, 0, 0, mj_u) else none)))) else
     (bif Nat.blt pc 126 then (bif Nat.blt pc 124 then (bif Nat.blt pc 121 then (bif Nat.beq pc 120 then some (.aload_n 0, 1, 0, 0, 0, mj_u) else none) else
        (bif Nat.beq pc 121 then some (.getfield 27, 3, 6, 6, 106, .null) else none)) else
       (bif Nat.blt pc 125 then (bif Nat.beq pc 124 then some (.iload_n 3, 1, 3, 0, 0, mj_u) else none) else
        (bif Nat.beq pc 125 then some (.iaload, 1, 0, 0, 0, mj_u) else none))) else
      (bif Nat.blt pc 130 then (bif Nat.blt pc 129 then (bif Nat.beq pc 126 then some (.if_icmp .eq 27, 3, 153, 0, 0, mj_u) else none) else
        (bif Nat.beq pc 129 then some (.aload_n 0, 1, 0, 0, 0, mj_u) else none)) else
       (bif Nat.blt pc 133 then (bif Nat.beq pc 130 then some (.getfield 36, 3, 6, 9, 111, .null) else none) else
        (bif Nat.beq pc 133 then some (.iload_n 3, 1, 3, 0, 0, mj_u) else none)))))) else
   (bif Nat.blt pc 158 then (bif Nat.blt pc 145 then (bif Nat.blt pc 139 then (bif Nat.blt pc 135 then (bif Nat.beq pc 134 then some (.baload, 1, 0, 0, 0, mj_u) else none) else
       (bif Nat.blt pc 138 then (bif Nat.beq pc 135 then some (.ifCond .eq 22, 3, 157, 0, 0, mj_u) else none) else
        (bif Nat.beq pc 138 then some (.aload_n 0, 1, 0, 0, 0, mj_u) else none))) else
      (bif Nat.blt pc 143 then (bif Nat.blt pc 142 then (bif Nat.beq pc 139 then some (.getfield 27, 3, 6, 6, 106, .null) else none) else
        (bif Nat.beq pc 142 then some (.iload_n 1, 1, 1, 0, 0, mj_u) else none)) else
       (bif Nat.blt pc 144 then (bif Nat.beq pc 143 then some (.iaload, 1, 0, 0, 0, mj_u) else none) else
        (bif Nat.beq pc 144 then some (.aload_n 0, 1, 0, 0, 0, mj_u) else none)))) else
     (bif Nat.blt pc 150 then (bif Nat.blt pc 148 then (bif Nat.beq pc 145 then some (.getfield 27, 3, 6, 6, 106, .null) else none) else
       (bif Nat.blt pc 149 then (bif Nat.beq pc 148 then some (.iload_n 3, 1, 3, 0, 0, mj_u) else none) else
        (bif Nat.beq pc 149 then some (.iaload, 1, 0, 0, 0, mj_u) else none))) else
      (bif Nat.blt pc 154 then (bif Nat.blt pc 153 then (bif Nat.beq pc 150 then some (.if_icmp .ge 7, 3, 157, 0, 0, mj_u) else none) else
        (bif Nat.beq pc 153 then some (.iconst 1, 1, 0, 0, 0, .int 1) else none)) else
       (bif Nat.blt pc 157 then (bif Nat.beq pc 154 then some (.goto 4, 3, 158, 0, 0, mj_u) else none) else
        (bif Nat.beq pc 157 then some (.iconst 0, 1, 0, 0, 0, .int 0) else none))))) else
    (bif Nat.blt pc 169 then (bif Nat.blt pc 163 then (bif Nat.blt pc 159 then (bif Nat.beq pc 158 then some (.bastore, 1, 0, 0, 0, mj_u) else none) else
       (bif Nat.blt pc 160 then (bif Nat.beq pc 159 then some (.aload_n 0, 1, 0, 0, 0, mj_u) else none) else
        (bif Nat.beq pc 160 then some (.getfield 27, 3, 6, 6, 106, .null) else none))) else
      (bif Nat.blt pc 165 then (bif Nat.blt pc 164 then (bif Nat.beq pc 163 then some (.iload_n 3, 1, 3, 0, 0, mj_u) else none) else
        (bif Nat.beq pc 164 then some (.aload_n 0, 1, 0, 0, 0, mj_u) else none)) else
       (bif Nat.blt pc 168 then (bif Nat.beq pc 165 then some (.getfield 27, 3, 6, 6, 106, .null) else none) else
        (bif Nat.beq pc 168 then some (.iload_n 3, 1, 3, 0, 0, mj_u) else none)))) else
     (bif Nat.blt pc 175 then (bif Nat.blt pc 171 then (bif Nat.blt pc 170 then (bif Nat.beq pc 169 then some (.iaload, 1, 0, 0, 0, mj_u) else none) else
        (bif Nat.beq pc 170 then some (.aload_n 0, 1, 0, 0, 0, mj_u) else none)) else
       (bif Nat.blt pc 174 then (bif Nat.beq pc 171 then some (.getfield 27, 3, 6, 6, 106, .null) else none) else
        (bif Nat.beq pc 174 then some (.iload_n 1, 1, 1, 0, 0, mj_u) else none))) else
      (bif Nat.blt pc 179 then (bif Nat.blt pc 176 then (bif Nat.beq pc 175 then some (.iaload, 1, 0, 0, 0, mj_u) else none) else
        (bif Nat.beq pc 176 then some (.invokestatic 93, 3, 22, 0, 464, mj_u) else none)) else
       (bif Nat.blt pc 180 then (bif Nat.beq pc 179 then some (.iastore, 1, 0, 0, 0, mj_u) else none) else
        (bif Nat.beq pc 180 then some (.return_, 1, 0, 0, 0, mj_u) else none)))))))
def m_Streams_passDown : mj_M := (35, prog_8_method_6_code, 4, (Option.none : Option Jvm.ClassFile.FieldType), 6, 2, 463, 462, 6, 28, 181, k_Streams_passDown)
/-- WatershedMap$Streams.findEnd(I)V -/
def k_Streams_findEnd : Nat → Option mj_I := fun pc =>
  bif Nat.blt pc 26 then (bif Nat.blt pc 12 then (bif Nat.blt pc 6 then (bif Nat.blt pc 4 then (bif Nat.blt pc 1 then (bif Nat.beq pc 0 then some (.aload_n 0, 1, 0, 0, 0, mj_u) else none) else
      (bif Nat.beq pc 1 then some (.getfield 15, 3, 6, 2, 99, .null) else none)) else
     (bif Nat.blt pc 5 then (bif Nat.beq pc 4 then some (.iload_n 1, 1, 1, 0, 0, mj_u) else none) else
      (bif Nat.beq pc 5 then some (.iaload, 1, 0, 0, 0, mj_u) else none))) else
    (bif Nat.blt pc 8 then (bif Nat.blt pc 7 then (bif Nat.beq pc 6 then some (.istore_n 2, 1, 2, 0, 0, mj_u) else none) else
      (bif Nat.beq pc 7 then some (.aload_n 0, 1, 0, 0, 0, mj_u) else none)) else
     (bif Nat.blt pc 11 then (bif Nat.beq pc 8 then some (.getfield 21, 3, 6, 4, 103, .null) else none) else
      (bif Nat.beq pc 11 then some (.iload_n 1, 1, 1, 0, 0, mj_u) else none)))) else
   (bif Nat.blt pc 20 then (bif Nat.blt pc 16 then (bif Nat.blt pc 13 then (bif Nat.beq pc 12 then some (.iload_n 2, 1, 2, 0, 0, mj_u) else none) else
      (bif Nat.beq pc 13 then some (.ifCond .ge 7, 3, 20, 0, 0, mj_u) else none)) else
     (bif Nat.blt pc 17 then (bif Nat.beq pc 16 then some (.iload_n 1, 1, 1, 0, 0, mj_u) else none) else
      (bif Nat.beq pc 17 then some (.goto 9, 3, 26, 0, 0, mj_u) else none))) else
    (bif Nat.blt pc 24 then (bif Nat.blt pc 21 then (bif Nat.beq pc 20 then some (.aload_n 0, 1, 0, 0, 0, mj_u) else none) else
      (bif Nat.beq pc 21 then some (.getfield 21, 3, 6, 4, 103, .null) else none)) else
     (bif Nat.blt pc 25 then (bif Nat.beq pc 24 then some (.iload_n 2, 1, 2, 0, 0, mj_u) else none) else
      (bif Nat.beq pc 25 then some (.iaload, 1, 0, 0, 0, mj_u) else none))))) else
  (bif Nat.blt pc 40 then (bif Nat.blt pc 32 then (bif Nat.blt pc 28 then (bif Nat.blt pc 27 then (bif Nat.beq pc 26 then some (.iastore, 1, 0, 0, 0, mj_u) else none) else
      (bif Nat.beq pc 27 then some (.aload_n 0, 1, 0, 0, 0, mj_u) else none)) else
     (bif Nat.blt pc 31 then (bif Nat.beq pc 28 then some (.getfield 24, 3, 6, 5, 105, .null) else none) else
      (bif Nat.beq pc 31 then some (.iload_n 1, 1, 1, 0, 0, mj_u) else none))) else
    (bif Nat.blt pc 36 then (bif Nat.blt pc 33 then (bif Nat.beq pc 32 then some (.iload_n 2, 1, 2, 0, 0, mj_u) else none) else
      (bif Nat.beq pc 33 then some (.ifCond .ge 7, 3, 40, 0, 0, mj_u) else none)) else
     (bif Nat.blt pc 37 then (bif Nat.beq pc 36 then some (.iconst 0, 1, 0, 0, 0, .int 0) else none) else
      (bif Nat.beq pc 37 then some (.goto 11, 3, 48, 0, 0, mj_u) else none)))) else
   (bif Nat.blt pc 46 then (bif Nat.blt pc 44 then (bif Nat.blt pc 41 then (bif Nat.beq pc 40 then some (.aload_n 0, 1, 0, 0, 0, mj_u) else none) else
      (bif Nat.beq pc 41 then some (.getfield 24, 3, 6, 5, 105, .null) else none)) else
     (bif Nat.blt pc 45 then (bif Nat.beq pc 44 then some (.iload_n 2, 1, 2, 0, 0, mj_u) else none) else
      (bif Nat.beq pc 45 then some (.iaload, 1, 0, 0, 0, mj_u) else none))) else
    (bif Nat.blt pc 48 then (bif Nat.blt pc 47 then (bif Nat.beq pc 46 then some (.iconst 1, 1, 0, 0, 0, .int 1) else none) else
      (bif Nat.beq pc 47 then some (.iadd, 1, 0, 0, 0, mj_u) else none)) else
     (bif Nat.blt pc 49 then (bif Nat.beq pc 48 then some (.iastore, 1, 0, 0, 0, mj_u) else none) else
      (bif Nat.beq pc 49 then some (.return_, 1, 0, 0, 0, mj_u) else none)))))
def m_Streams_findEnd : mj_M := (36, prog_8_method_7_code, 3, (Option.none : Option Jvm.ClassFile.FieldType), 6, 1, 468, 467, 7, 28, 50, k_Streams_findEnd)
/-- WatershedMap$Land.washAway(LWatershedMap$Streams;I)I -/
def k_Land_washAway : Nat → Option mj_I := fun pc =>
  bif Nat.blt pc 58 then (bif Nat.blt pc 29 then (bif Nat.blt pc 14 then (bif Nat.blt pc 4 then (bif Nat.blt pc 2 then (bif Nat.blt pc 1 then (bif Nat.beq pc 0 then some (.iconst 0, 1, 0, 0, 0, .int 0) else none) else
       (bif Nat.beq pc 1 then some (.istore_n 3, 1, 3, 0, 0, mj_u) else none)) else
      (bif Nat.blt pc 3 then (bif Nat.beq pc 2 then some (.iload_n 3, 1, 3, 0, 0, mj_u) else none) else
       (bif Nat.beq pc 3 then some (.aload_n 0, 1, 0, 0, 0, mj_u) else none))) else
     (bif Nat.blt pc 10 then (bif Nat.blt pc 7 then (bif Nat.beq pc 4 then some (.getfield 28, 3, 4, 5, 73, .int 0) else none) else
       (bif Nat.beq pc 7 then some (.if_icmp .ge 66, 3, 73, 0, 0, mj_u) else none)) else
      (bif Nat.blt pc 11 then (bif Nat.beq pc 10 then some (.aload_n 1, 1, 1, 0, 0, mj_u) else none) else
       (bif Nat.beq pc 11 then some (.getfield 93, 3, 6, 2, 100, .null) else none)))) else
    (bif Nat.blt pc 20 then (bif Nat.blt pc 16 then (bif Nat.blt pc 15 then (bif Nat.beq pc 14 then some (.iload_n 3, 1, 3, 0, 0, mj_u) else none) else
       (bif Nat.beq pc 15 then some (.iaload, 1, 0, 0, 0, mj_u) else none)) else
      (bif Nat.blt pc 18 then (bif Nat.beq pc 16 then some (.istore 4, 2, 4, 0, 0, mj_u) else none) else
       (bif Nat.beq pc 18 then some (.iload 4, 2, 4, 0, 0, mj_u) else none))) else
     (bif Nat.blt pc 24 then (bif Nat.blt pc 23 then (bif Nat.beq pc 20 then some (.ifCond .ge 7, 3, 27, 0, 0, mj_u) else none) else
       (bif Nat.beq pc 23 then some (.iconst 0, 1, 0, 0, 0, .int 0) else none)) else
      (bif Nat.blt pc 27 then (bif Nat.beq pc 24 then some (.goto 26, 3, 50, 0, 0, mj_u) else none) else
       (bif Nat.blt pc 28 then (bif Nat.beq pc 27 then some (.iload_n 2, 1, 2, 0, 0, mj_u) else none) else
        (bif Nat.beq pc 28 then some (.aload_n 1, 1, 1, 0, 0, mj_u) else none)))))) else
   (bif Nat.blt pc 42 then (bif Nat.blt pc 35 then (bif Nat.blt pc 33 then (bif Nat.blt pc 32 then (bif Nat.beq pc 29 then some (.getfield 98, 3, 6, 3, 102, .null) else none) else
       (bif Nat.beq pc 32 then some (.iload_n 3, 1, 3, 0, 0, mj_u) else none)) else
      (bif Nat.blt pc 34 then (bif Nat.beq pc 33 then some (.iaload, 1, 0, 0, 0, mj_u) else none) else
       (bif Nat.beq pc 34 then some (.imul, 1, 0, 0, 0, mj_u) else none))) else
     (bif Nat.blt pc 38 then (bif Nat.blt pc 37 then (bif Nat.beq pc 35 then some (.bipush 10, 2, 0, 0, 0, .int 10) else none) else
       (bif Nat.beq pc 37 then some (.idiv, 1, 0, 0, 0, mj_u) else none)) else
      (bif Nat.blt pc 39 then (bif Nat.beq pc 38 then some (.aload_n 0, 1, 0, 0, 0, mj_u) else none) else
       (bif Nat.blt pc 40 then (bif Nat.beq pc 39 then some (.iload_n 3, 1, 3, 0, 0, mj_u) else none) else
        (bif Nat.beq pc 40 then some (.iload 4, 2, 4, 0, 0, mj_u) else none))))) else
    (bif Nat.blt pc 50 then (bif Nat.blt pc 46 then (bif Nat.blt pc 45 then (bif Nat.beq pc 42 then some (.invokevirtual 101, 3, 38, 0, 473, mj_u) else none) else
       (bif Nat.beq pc 45 then some (.iconst 2, 1, 0, 0, 0, .int 2) else none)) else
      (bif Nat.blt pc 47 then (bif Nat.beq pc 46 then some (.idiv, 1, 0, 0, 0, mj_u) else none) else
       (bif Nat.beq pc 47 then some (.invokestatic 74, 3, 40, 0, 480, mj_u) else none))) else
     (bif Nat.blt pc 53 then (bif Nat.blt pc 52 then (bif Nat.beq pc 50 then some (.istore 5, 2, 5, 0, 0, mj_u) else none) else
       (bif Nat.beq pc 52 then some (.aload_n 0, 1, 0, 0, 0, mj_u) else none)) else
      (bif Nat.blt pc 56 then (bif Nat.beq pc 53 then some (.getfield 15, 3, 4, 1, 63, .null) else none) else
       (bif Nat.blt pc 57 then (bif Nat.beq pc 56 then some (.iload_n 3, 1, 3, 0, 0, mj_u) else none) else
        (bif Nat.beq pc 57 then some (.aload_n 0, 1, 0, 0, 0, mj_u) else none))))))) else
  (bif Nat.blt pc 88 then (bif Nat.blt pc 73 then (bif Nat.blt pc 65 then (bif Nat.blt pc 62 then (bif Nat.blt pc 61 then (bif Nat.beq pc 58 then some (.getfield 9, 3, 4, 0, 57, .null) else none) else
       (bif Nat.beq pc 61 then some (.iload_n 3, 1, 3, 0, 0, mj_u) else none)) else
      (bif Nat.blt pc 63 then (bif Nat.beq pc 62 then some (.iaload, 1, 0, 0, 0, mj_u) else none) else
       (bif Nat.beq pc 63 then some (.iload 5, 2, 5, 0, 0, mj_u) else none))) else
     (bif Nat.blt pc 67 then (bif Nat.blt pc 66 then (bif Nat.beq pc 65 then some (.isub, 1, 0, 0, 0, mj_u) else none) else
       (bif Nat.beq pc 66 then some (.iastore, 1, 0, 0, 0, mj_u) else none)) else
      (bif Nat.blt pc 70 then (bif Nat.beq pc 67 then some (.iinc 3 1, 3, 3, 0, 0, .int 1) else none) else
       (bif Nat.beq pc 70 then some (.goto (-68), 3, 2, 0, 0, mj_u) else none)))) else
    (bif Nat.blt pc 78 then (bif Nat.blt pc 75 then (bif Nat.blt pc 74 then (bif Nat.beq pc 73 then some (.iconst 0, 1, 0, 0, 0, .int 0) else none) else
       (bif Nat.beq pc 74 then some (.istore_n 3, 1, 3, 0, 0, mj_u) else none)) else
      (bif Nat.blt pc 76 then (bif Nat.beq pc 75 then some (.iconst 0, 1, 0, 0, 0, .int 0) else none) else
       (bif Nat.beq pc 76 then some (.istore 4, 2, 4, 0, 0, mj_u) else none))) else
     (bif Nat.blt pc 81 then (bif Nat.blt pc 80 then (bif Nat.beq pc 78 then some (.iload 4, 2, 4, 0, 0, mj_u) else none) else
       (bif Nat.beq pc 80 then some (.aload_n 0, 1, 0, 0, 0, mj_u) else none)) else
      (bif Nat.blt pc 84 then (bif Nat.beq pc 81 then some (.getfield 28, 3, 4, 5, 73, .int 0) else none) else
       (bif Nat.blt pc 87 then (bif Nat.beq pc 84 then some (.if_icmp .ge 33, 3, 117, 0, 0, mj_u) else none) else
        (bif Nat.beq pc 87 then some (.iload_n 3, 1, 3, 0, 0, mj_u) else none)))))) else
   (bif Nat.blt pc 105 then (bif Nat.blt pc 95 then (bif Nat.blt pc 91 then (bif Nat.blt pc 89 then (bif Nat.beq pc 88 then some (.aload_n 0, 1, 0, 0, 0, mj_u) else none) else
       (bif Nat.beq pc 89 then some (.iload 4, 2, 4, 0, 0, mj_u) else none)) else
      (bif Nat.blt pc 92 then (bif Nat.beq pc 91 then some (.aload_n 0, 1, 0, 0, 0, mj_u) else none) else
       (bif Nat.beq pc 92 then some (.getfield 15, 3, 4, 1, 63, .null) else none))) else
     (bif Nat.blt pc 98 then (bif Nat.blt pc 97 then (bif Nat.beq pc 95 then some (.iload 4, 2, 4, 0, 0, mj_u) else none) else
       (bif Nat.beq pc 97 then some (.iaload, 1, 0, 0, 0, mj_u) else none)) else
      (bif Nat.blt pc 101 then (bif Nat.beq pc 98 then some (.invokevirtual 80, 3, 18, 0, 403, mj_u) else none) else
       (bif Nat.blt pc 102 then (bif Nat.beq pc 101 then some (.aload_n 0, 1, 0, 0, 0, mj_u) else none) else
        (bif Nat.beq pc 102 then some (.getfield 15, 3, 4, 1, 63, .null) else none))))) else
    (bif Nat.blt pc 110 then (bif Nat.blt pc 108 then (bif Nat.blt pc 107 then (bif Nat.beq pc 105 then some (.iload 4, 2, 4, 0, 0, mj_u) else none) else
       (bif Nat.beq pc 107 then some (.iaload, 1, 0, 0, 0, mj_u) else none)) else
      (bif Nat.blt pc 109 then (bif Nat.beq pc 108 then some (.isub, 1, 0, 0, 0, mj_u) else none) else
       (bif Nat.beq pc 109 then some (.iadd, 1, 0, 0, 0, mj_u) else none))) else
     (bif Nat.blt pc 114 then (bif Nat.blt pc 111 then (bif Nat.beq pc 110 then some (.istore_n 3, 1, 3, 0, 0, mj_u) else none) else
       (bif Nat.beq pc 111 then some (.iinc 4 1, 3, 4, 0, 0, .int 1) else none)) else
      (bif Nat.blt pc 117 then (bif Nat.beq pc 114 then some (.goto (-36), 3, 78, 0, 0, mj_u) else none) else
       (bif Nat.blt pc 118 then (bif Nat.beq pc 117 then some (.iload_n 3, 1, 3, 0, 0, mj_u) else none) else
        (bif Nat.beq pc 118 then some (.ireturn, 1, 0, 0, 0, mj_u) else none)))))))
def m_Land_washAway : mj_M := (37, prog_6_method_21_code, 6, (Option.some Jvm.ClassFile.FieldType.int), 4, 2, 472, 470, 471, 27, 119, k_Land_washAway)
/-- WatershedMap$Land.difference(II)I -/
def k_Land_difference : Nat → Option mj_I := fun pc =>
  bif Nat.blt pc 7 then (bif Nat.blt pc 4 then (bif Nat.blt pc 1 then (bif Nat.beq pc 0 then some (.aload_n 0, 1, 0, 0, 0, mj_u) else none) else
    (bif Nat.beq pc 1 then some (.getfield 9, 3, 4, 0, 57, .null) else none)) else
   (bif Nat.blt pc 5 then (bif Nat.beq pc 4 then some (.iload_n 1, 1, 1, 0, 0, mj_u) else none) else
    (bif Nat.blt pc 6 then (bif Nat.beq pc 5 then some (.iaload, 1, 0, 0, 0, mj_u) else none) else
     (bif Nat.beq pc 6 then some (.aload_n 0, 1, 0, 0, 0, mj_u) else none)))) else
  (bif Nat.blt pc 12 then (bif Nat.blt pc 10 then (bif Nat.beq pc 7 then some (.getfield 9, 3, 4, 0, 57, .null) else none) else
    (bif Nat.blt pc 11 then (bif Nat.beq pc 10 then some (.iload_n 2, 1, 2, 0, 0, mj_u) else none) else
     (bif Nat.beq pc 11 then some (.iaload, 1, 0, 0, 0, mj_u) else none))) else
   (bif Nat.blt pc 13 then (bif Nat.beq pc 12 then some (.isub, 1, 0, 0, 0, mj_u) else none) else
    (bif Nat.blt pc 16 then (bif Nat.beq pc 13 then some (.invokestatic 58, 3, 39, 0, 477, mj_u) else none) else
     (bif Nat.beq pc 16 then some (.ireturn, 1, 0, 0, 0, mj_u) else none))))
def m_Land_difference : mj_M := (38, prog_6_method_10_code, 3, (Option.some Jvm.ClassFile.FieldType.int), 4, 2, 476, 474, 475, 27, 17, k_Land_difference)
/-- java/lang/Math.abs(I)I static -/
def k_Math_abs : Nat → Option mj_I := fun pc =>
  bif Nat.blt pc 5 then (bif Nat.blt pc 1 then (bif Nat.beq pc 0 then some (.iload_n 0, 1, 0, 0, 0, mj_u) else none) else
   (bif Nat.blt pc 4 then (bif Nat.beq pc 1 then some (.ifCond .ge 8, 3, 9, 0, 0, mj_u) else none) else
    (bif Nat.beq pc 4 then some (.iload_n 0, 1, 0, 0, 0, mj_u) else none))) else
  (bif Nat.blt pc 9 then (bif Nat.blt pc 6 then (bif Nat.beq pc 5 then some (.ineg, 1, 0, 0, 0, mj_u) else none) else
    (bif Nat.beq pc 6 then some (.goto 4, 3, 10, 0, 0, mj_u) else none)) else
   (bif Nat.blt pc 10 then (bif Nat.beq pc 9 then some (.iload_n 0, 1, 0, 0, 0, mj_u) else none) else
    (bif Nat.beq pc 10 then some (.ireturn, 1, 0, 0, 0, mj_u) else none)))
def m_Math_abs : mj_M := (39, prog_16_method_59_code, 1, (Option.some Jvm.ClassFile.FieldType.int), 9, 1, 479, 478, 0, 41, 11, k_Math_abs)
/-- java/lang/Math.min(II)I static -/
def k_Math_min : Nat → Option mj_I := fun pc =>
  bif Nat.blt pc 5 then (bif Nat.blt pc 1 then (bif Nat.beq pc 0 then some (.iload_n 0, 1, 0, 0, 0, mj_u) else none) else
   (bif Nat.blt pc 2 then (bif Nat.beq pc 1 then some (.iload_n 1, 1, 1, 0, 0, mj_u) else none) else
    (bif Nat.beq pc 2 then some (.if_icmp .gt 7, 3, 9, 0, 0, mj_u) else none))) else
  (bif Nat.blt pc 9 then (bif Nat.blt pc 6 then (bif Nat.beq pc 5 then some (.iload_n 0, 1, 0, 0, 0, mj_u) else none) else
    (bif Nat.beq pc 6 then some (.goto 4, 3, 10, 0, 0, mj_u) else none)) else
   (bif Nat.blt pc 10 then (bif Nat.beq pc 9 then some (.iload_n 1, 1, 1, 0, 0, mj_u) else none) else
    (bif Nat.beq pc 10 then some (.ireturn, 1, 0, 0, 0, mj_u) else none)))
def m_Math_min : mj_M := (40, prog_16_method_69_code, 2, (Option.some Jvm.ClassFile.FieldType.int), 9, 2, 482, 481, 0, 41, 11, k_Math_min)
/-- WatershedMap.fill()I -/
def k_W_fill : Nat → Option mj_I := fun pc =>
  bif Nat.blt pc 11 then (bif Nat.blt pc 4 then (bif Nat.blt pc 1 then (bif Nat.beq pc 0 then some (.aload_n 0, 1, 0, 0, 0, mj_u) else none) else
    (bif Nat.beq pc 1 then some (.getfield 28, 3, 8, 2, 268, .null) else none)) else
   (bif Nat.blt pc 7 then (bif Nat.beq pc 4 then some (.invokevirtual 108, 3, 42, 0, 487, mj_u) else none) else
    (bif Nat.blt pc 8 then (bif Nat.beq pc 7 then some (.aload_n 0, 1, 0, 0, 0, mj_u) else none) else
     (bif Nat.beq pc 8 then some (.getfield 10, 3, 8, 0, 266, .null) else none)))) else
  (bif Nat.blt pc 15 then (bif Nat.blt pc 12 then (bif Nat.beq pc 11 then some (.aload_n 0, 1, 0, 0, 0, mj_u) else none) else
    (bif Nat.beq pc 12 then some (.getfield 28, 3, 8, 2, 268, .null) else none)) else
   (bif Nat.blt pc 18 then (bif Nat.beq pc 15 then some (.getfield 111, 3, 3, 1, 171, .null) else none) else
    (bif Nat.blt pc 21 then (bif Nat.beq pc 18 then some (.invokevirtual 114, 3, 54, 0, 538, mj_u) else none) else
     (bif Nat.beq pc 21 then some (.ireturn, 1, 0, 0, 0, mj_u) else none))))
def m_W_fill : mj_M := (41, prog_1_method_9_code, 1, (Option.some Jvm.ClassFile.FieldType.int), 8, 0, 486, 484, 485, 26, 22, k_W_fill)
/-- WatershedMap$Hollows.find()V -/
def k_Hollows_find : Nat → Option mj_I := fun pc =>
  bif Nat.blt pc 42 then (bif Nat.blt pc 19 then (bif Nat.blt pc 11 then (bif Nat.blt pc 4 then (bif Nat.blt pc 1 then (bif Nat.beq pc 0 then some (.aload_n 0, 1, 0, 0, 0, mj_u) else none) else
      (bif Nat.beq pc 1 then some (.invokevirtual 33, 3, 43, 0, 491, mj_u) else none)) else
     (bif Nat.blt pc 5 then (bif Nat.beq pc 4 then some (.aload_n 0, 1, 0, 0, 0, mj_u) else none) else
      (bif Nat.blt pc 8 then (bif Nat.beq pc 5 then some (.getfield 25, 3, 3, 3, 173, .null) else none) else
       (bif Nat.beq pc 8 then some (.invokevirtual 36, 3, 48, 0, 514, mj_u) else none)))) else
    (bif Nat.blt pc 16 then (bif Nat.blt pc 12 then (bif Nat.beq pc 11 then some (.aload_n 0, 1, 0, 0, 0, mj_u) else none) else
      (bif Nat.blt pc 13 then (bif Nat.beq pc 12 then some (.iconst 0, 1, 0, 0, 0, .int 0) else none) else
       (bif Nat.beq pc 13 then some (.putfield 39, 3, 3, 4, 174, .int 0) else none))) else
     (bif Nat.blt pc 17 then (bif Nat.beq pc 16 then some (.iconst 0, 1, 0, 0, 0, .int 0) else none) else
      (bif Nat.blt pc 18 then (bif Nat.beq pc 17 then some (.istore_n 1, 1, 1, 0, 0, mj_u) else none) else
       (bif Nat.beq pc 18 then some (.iload_n 1, 1, 1, 0, 0, mj_u) else none))))) else
   (bif Nat.blt pc 30 then (bif Nat.blt pc 23 then (bif Nat.blt pc 20 then (bif Nat.beq pc 19 then some (.aload_n 0, 1, 0, 0, 0, mj_u) else none) else
      (bif Nat.beq pc 20 then some (.getfield 29, 3, 3, 0, 169, .null) else none)) else
     (bif Nat.blt pc 26 then (bif Nat.beq pc 23 then some (.getfield 43, 3, 4, 5, 74, .int 0) else none) else
      (bif Nat.blt pc 29 then (bif Nat.beq pc 26 then some (.if_icmp .ge 55, 3, 81, 0, 0, mj_u) else none) else
       (bif Nat.beq pc 29 then some (.aload_n 0, 1, 0, 0, 0, mj_u) else none)))) else
    (bif Nat.blt pc 37 then (bif Nat.blt pc 31 then (bif Nat.beq pc 30 then some (.iload_n 1, 1, 1, 0, 0, mj_u) else none) else
      (bif Nat.blt pc 34 then (bif Nat.beq pc 31 then some (.invokevirtual 48, 3, 49, 0, 518, mj_u) else none) else
       (bif Nat.beq pc 34 then some (.ifCond .eq 41, 3, 75, 0, 0, mj_u) else none))) else
     (bif Nat.blt pc 38 then (bif Nat.beq pc 37 then some (.aload_n 0, 1, 0, 0, 0, mj_u) else none) else
      (bif Nat.blt pc 39 then (bif Nat.beq pc 38 then some (.dup, 1, 0, 0, 0, mj_u) else none) else
       (bif Nat.beq pc 39 then some (.getfield 39, 3, 3, 4, 174, .int 0) else none)))))) else
  (bif Nat.blt pc 61 then (bif Nat.blt pc 49 then (bif Nat.blt pc 44 then (bif Nat.blt pc 43 then (bif Nat.beq pc 42 then some (.iconst 1, 1, 0, 0, 0, .int 1) else none) else
      (bif Nat.beq pc 43 then some (.iadd, 1, 0, 0, 0, mj_u) else none)) else
     (bif Nat.blt pc 47 then (bif Nat.beq pc 44 then some (.putfield 39, 3, 3, 4, 174, .int 0) else none) else
      (bif Nat.blt pc 48 then (bif Nat.beq pc 47 then some (.aload_n 0, 1, 0, 0, 0, mj_u) else none) else
       (bif Nat.beq pc 48 then some (.iload_n 1, 1, 1, 0, 0, mj_u) else none)))) else
    (bif Nat.blt pc 54 then (bif Nat.blt pc 50 then (bif Nat.beq pc 49 then some (.aload_n 0, 1, 0, 0, 0, mj_u) else none) else
      (bif Nat.blt pc 53 then (bif Nat.beq pc 50 then some (.getfield 29, 3, 3, 0, 169, .null) else none) else
       (bif Nat.beq pc 53 then some (.iload_n 1, 1, 1, 0, 0, mj_u) else none))) else
     (bif Nat.blt pc 55 then (bif Nat.beq pc 54 then some (.iconst 0, 1, 0, 0, 0, .int 0) else none) else
      (bif Nat.blt pc 58 then (bif Nat.beq pc 55 then some (.invokevirtual 52, 3, 27, 0, 512, mj_u) else none) else
       (bif Nat.beq pc 58 then some (.invokevirtual 56, 3, 51, 0, 526, mj_u) else none))))) else
   (bif Nat.blt pc 68 then (bif Nat.blt pc 63 then (bif Nat.blt pc 62 then (bif Nat.beq pc 61 then some (.aload_n 0, 1, 0, 0, 0, mj_u) else none) else
      (bif Nat.beq pc 62 then some (.iload_n 1, 1, 1, 0, 0, mj_u) else none)) else
     (bif Nat.blt pc 64 then (bif Nat.beq pc 63 then some (.aload_n 0, 1, 0, 0, 0, mj_u) else none) else
      (bif Nat.blt pc 67 then (bif Nat.beq pc 64 then some (.getfield 29, 3, 3, 0, 169, .null) else none) else
       (bif Nat.beq pc 67 then some (.iload_n 1, 1, 1, 0, 0, mj_u) else none)))) else
    (bif Nat.blt pc 75 then (bif Nat.blt pc 69 then (bif Nat.beq pc 68 then some (.iconst 2, 1, 0, 0, 0, .int 2) else none) else
      (bif Nat.blt pc 72 then (bif Nat.beq pc 69 then some (.invokevirtual 52, 3, 27, 0, 512, mj_u) else none) else
       (bif Nat.beq pc 72 then some (.invokevirtual 56, 3, 51, 0, 526, mj_u) else none))) else
     (bif Nat.blt pc 78 then (bif Nat.beq pc 75 then some (.iinc 1 1, 3, 1, 0, 0, .int 1) else none) else
      (bif Nat.blt pc 81 then (bif Nat.beq pc 78 then some (.goto (-60), 3, 18, 0, 0, mj_u) else none) else
       (bif Nat.beq pc 81 then some (.return_, 1, 0, 0, 0, mj_u) else none))))))
def m_Hollows_find : mj_M := (42, prog_5_method_2_code, 2, (Option.none : Option Jvm.ClassFile.FieldType), 3, 0, 490, 488, 489, 29, 82, k_Hollows_find)
/-- WatershedMap$Hollows.findLevels()V -/
def k_Hollows_findLevels : Nat → Option mj_I := fun pc =>
  bif Nat.blt pc 52 then (bif Nat.blt pc 26 then (bif Nat.blt pc 11 then (bif Nat.blt pc 7 then (bif Nat.blt pc 1 then (bif Nat.beq pc 0 then some (.aload_n 0, 1, 0, 0, 0, mj_u) else none) else
      (bif Nat.blt pc 4 then (bif Nat.beq pc 1 then some (.getfield 18, 3, 3, 2, 172, .null) else none) else
       (bif Nat.beq pc 4 then some (.invokevirtual 60, 3, 44, 0, 495, mj_u) else none))) else
     (bif Nat.blt pc 9 then (bif Nat.blt pc 8 then (bif Nat.beq pc 7 then some (.iconst 0, 1, 0, 0, 0, .int 0) else none) else
       (bif Nat.beq pc 8 then some (.istore_n 1, 1, 1, 0, 0, mj_u) else none)) else
      (bif Nat.blt pc 10 then (bif Nat.beq pc 9 then some (.iload_n 1, 1, 1, 0, 0, mj_u) else none) else
       (bif Nat.beq pc 10 then some (.aload_n 0, 1, 0, 0, 0, mj_u) else none)))) else
    (bif Nat.blt pc 20 then (bif Nat.blt pc 14 then (bif Nat.beq pc 11 then some (.getfield 29, 3, 3, 0, 169, .null) else none) else
      (bif Nat.blt pc 17 then (bif Nat.beq pc 14 then some (.getfield 43, 3, 4, 5, 74, .int 0) else none) else
       (bif Nat.beq pc 17 then some (.if_icmp .ge 50, 3, 67, 0, 0, mj_u) else none))) else
     (bif Nat.blt pc 24 then (bif Nat.blt pc 21 then (bif Nat.beq pc 20 then some (.aload_n 0, 1, 0, 0, 0, mj_u) else none) else
       (bif Nat.beq pc 21 then some (.getfield 9, 3, 3, 1, 170, .null) else none)) else
      (bif Nat.blt pc 25 then (bif Nat.beq pc 24 then some (.iload_n 1, 1, 1, 0, 0, mj_u) else none) else
       (bif Nat.beq pc 25 then some (.iconst (-1), 1, 0, 0, 0, .int (-1)) else none))))) else
   (bif Nat.blt pc 39 then (bif Nat.blt pc 31 then (bif Nat.blt pc 27 then (bif Nat.beq pc 26 then some (.iastore, 1, 0, 0, 0, mj_u) else none) else
      (bif Nat.blt pc 28 then (bif Nat.beq pc 27 then some (.aload_n 0, 1, 0, 0, 0, mj_u) else none) else
       (bif Nat.beq pc 28 then some (.getfield 29, 3, 3, 0, 169, .null) else none))) else
     (bif Nat.blt pc 35 then (bif Nat.blt pc 32 then (bif Nat.beq pc 31 then some (.iload_n 1, 1, 1, 0, 0, mj_u) else none) else
       (bif Nat.beq pc 32 then some (.invokevirtual 63, 3, 31, 0, 499, mj_u) else none)) else
      (bif Nat.blt pc 38 then (bif Nat.beq pc 35 then some (.ifCond .eq 26, 3, 61, 0, 0, mj_u) else none) else
       (bif Nat.beq pc 38 then some (.aload_n 0, 1, 0, 0, 0, mj_u) else none)))) else
    (bif Nat.blt pc 44 then (bif Nat.blt pc 42 then (bif Nat.beq pc 39 then some (.getfield 9, 3, 3, 1, 170, .null) else none) else
      (bif Nat.blt pc 43 then (bif Nat.beq pc 42 then some (.iload_n 1, 1, 1, 0, 0, mj_u) else none) else
       (bif Nat.beq pc 43 then some (.aload_n 0, 1, 0, 0, 0, mj_u) else none))) else
     (bif Nat.blt pc 50 then (bif Nat.blt pc 47 then (bif Nat.beq pc 44 then some (.getfield 29, 3, 3, 0, 169, .null) else none) else
       (bif Nat.beq pc 47 then some (.getfield 66, 3, 4, 0, 60, .null) else none)) else
      (bif Nat.blt pc 51 then (bif Nat.beq pc 50 then some (.iload_n 1, 1, 1, 0, 0, mj_u) else none) else
       (bif Nat.beq pc 51 then some (.iaload, 1, 0, 0, 0, mj_u) else none)))))) else
  (bif Nat.blt pc 80 then (bif Nat.blt pc 67 then (bif Nat.blt pc 57 then (bif Nat.blt pc 53 then (bif Nat.beq pc 52 then some (.iastore, 1, 0, 0, 0, mj_u) else none) else
      (bif Nat.blt pc 54 then (bif Nat.beq pc 53 then some (.aload_n 0, 1, 0, 0, 0, mj_u) else none) else
       (bif Nat.beq pc 54 then some (.getfield 18, 3, 3, 2, 172, .null) else none))) else
     (bif Nat.blt pc 61 then (bif Nat.blt pc 58 then (bif Nat.beq pc 57 then some (.iload_n 1, 1, 1, 0, 0, mj_u) else none) else
       (bif Nat.beq pc 58 then some (.invokevirtual 69, 3, 45, 0, 500, mj_u) else none)) else
      (bif Nat.blt pc 64 then (bif Nat.beq pc 61 then some (.iinc 1 1, 3, 1, 0, 0, .int 1) else none) else
       (bif Nat.beq pc 64 then some (.goto (-55), 3, 9, 0, 0, mj_u) else none)))) else
    (bif Nat.blt pc 70 then (bif Nat.blt pc 68 then (bif Nat.beq pc 67 then some (.iconst 0, 1, 0, 0, 0, .int 0) else none) else
      (bif Nat.blt pc 69 then (bif Nat.beq pc 68 then some (.istore_n 1, 1, 1, 0, 0, mj_u) else none) else
       (bif Nat.beq pc 69 then some (.iload_n 1, 1, 1, 0, 0, mj_u) else none))) else
     (bif Nat.blt pc 74 then (bif Nat.blt pc 71 then (bif Nat.beq pc 70 then some (.aload_n 0, 1, 0, 0, 0, mj_u) else none) else
       (bif Nat.beq pc 71 then some (.getfield 29, 3, 3, 0, 169, .null) else none)) else
      (bif Nat.blt pc 77 then (bif Nat.beq pc 74 then some (.getfield 43, 3, 4, 5, 74, .int 0) else none) else
       (bif Nat.beq pc 77 then some (.if_icmp .ge 30, 3, 107, 0, 0, mj_u) else none))))) else
   (bif Nat.blt pc 93 then (bif Nat.blt pc 85 then (bif Nat.blt pc 81 then (bif Nat.beq pc 80 then some (.aload_n 0, 1, 0, 0, 0, mj_u) else none) else
      (bif Nat.blt pc 84 then (bif Nat.beq pc 81 then some (.getfield 18, 3, 3, 2, 172, .null) else none) else
       (bif Nat.beq pc 84 then some (.aload_n 0, 1, 0, 0, 0, mj_u) else none))) else
     (bif Nat.blt pc 91 then (bif Nat.blt pc 88 then (bif Nat.beq pc 85 then some (.getfield 9, 3, 3, 1, 170, .null) else none) else
       (bif Nat.beq pc 88 then some (.invokevirtual 73, 3, 46, 0, 504, mj_u) else none)) else
      (bif Nat.blt pc 92 then (bif Nat.beq pc 91 then some (.istore_n 2, 1, 2, 0, 0, mj_u) else none) else
       (bif Nat.beq pc 92 then some (.iload_n 2, 1, 2, 0, 0, mj_u) else none)))) else
    (bif Nat.blt pc 98 then (bif Nat.blt pc 96 then (bif Nat.beq pc 93 then some (.ifCond .lt 8, 3, 101, 0, 0, mj_u) else none) else
      (bif Nat.blt pc 97 then (bif Nat.beq pc 96 then some (.aload_n 0, 1, 0, 0, 0, mj_u) else none) else
       (bif Nat.beq pc 97 then some (.iload_n 2, 1, 2, 0, 0, mj_u) else none))) else
     (bif Nat.blt pc 104 then (bif Nat.blt pc 101 then (bif Nat.beq pc 98 then some (.invokevirtual 77, 3, 47, 0, 508, mj_u) else none) else
       (bif Nat.beq pc 101 then some (.iinc 1 1, 3, 1, 0, 0, .int 1) else none)) else
      (bif Nat.blt pc 107 then (bif Nat.beq pc 104 then some (.goto (-35), 3, 69, 0, 0, mj_u) else none) else
       (bif Nat.beq pc 107 then some (.return_, 1, 0, 0, 0, mj_u) else none))))))
def m_Hollows_findLevels : mj_M := (43, prog_5_method_3_code, 3, (Option.none : Option Jvm.ClassFile.FieldType), 3, 0, 494, 493, 8, 29, 108, k_Hollows_findLevels)
/-- WatershedMap$Frontier.clear()V -/
def k_Frontier_clear : Nat → Option mj_I := fun pc =>
  bif Nat.blt pc 2 then (bif Nat.blt pc 1 then (bif Nat.beq pc 0 then some (.aload_n 0, 1, 0, 0, 0, mj_u) else none) else
   (bif Nat.beq pc 1 then some (.iconst 0, 1, 0, 0, 0, .int 0) else none)) else
  (bif Nat.blt pc 5 then (bif Nat.beq pc 2 then some (.putfield 15, 3, 1, 1, 153, .int 0) else none) else
   (bif Nat.beq pc 5 then some (.return_, 1, 0, 0, 0, mj_u) else none))
def m_Frontier_clear : mj_M := (44, prog_3_method_2_code, 1, (Option.none : Option Jvm.ClassFile.FieldType), 1, 0, 498, 496, 497, 30, 6, k_Frontier_clear)
/-- WatershedMap$Frontier.add(I)V -/
def k_Frontier_add : Nat → Option mj_I := fun pc =>
  bif Nat.blt pc 18 then (bif Nat.blt pc 10 then (bif Nat.blt pc 4 then (bif Nat.blt pc 1 then (bif Nat.beq pc 0 then some (.aload_n 0, 1, 0, 0, 0, mj_u) else none) else
     (bif Nat.beq pc 1 then some (.getfield 15, 3, 1, 1, 153, .int 0) else none)) else
    (bif Nat.blt pc 7 then (bif Nat.beq pc 4 then some (.sipush 256, 3, 0, 0, 0, .int 256) else none) else
     (bif Nat.beq pc 7 then some (.if_icmp .ge 23, 3, 30, 0, 0, mj_u) else none))) else
   (bif Nat.blt pc 14 then (bif Nat.blt pc 11 then (bif Nat.beq pc 10 then some (.aload_n 0, 1, 0, 0, 0, mj_u) else none) else
     (bif Nat.beq pc 11 then some (.getfield 9, 3, 1, 0, 152, .null) else none)) else
    (bif Nat.blt pc 15 then (bif Nat.beq pc 14 then some (.aload_n 0, 1, 0, 0, 0, mj_u) else none) else
     (bif Nat.beq pc 15 then some (.getfield 15, 3, 1, 1, 153, .int 0) else none)))) else
  (bif Nat.blt pc 22 then (bif Nat.blt pc 20 then (bif Nat.blt pc 19 then (bif Nat.beq pc 18 then some (.iload_n 1, 1, 1, 0, 0, mj_u) else none) else
     (bif Nat.beq pc 19 then some (.iastore, 1, 0, 0, 0, mj_u) else none)) else
    (bif Nat.blt pc 21 then (bif Nat.beq pc 20 then some (.aload_n 0, 1, 0, 0, 0, mj_u) else none) else
     (bif Nat.beq pc 21 then some (.dup, 1, 0, 0, 0, mj_u) else none))) else
   (bif Nat.blt pc 26 then (bif Nat.blt pc 25 then (bif Nat.beq pc 22 then some (.getfield 15, 3, 1, 1, 153, .int 0) else none) else
     (bif Nat.beq pc 25 then some (.iconst 1, 1, 0, 0, 0, .int 1) else none)) else
    (bif Nat.blt pc 27 then (bif Nat.beq pc 26 then some (.iadd, 1, 0, 0, 0, mj_u) else none) else
     (bif Nat.blt pc 30 then (bif Nat.beq pc 27 then some (.putfield 15, 3, 1, 1, 153, .int 0) else none) else
      (bif Nat.beq pc 30 then some (.return_, 1, 0, 0, 0, mj_u) else none)))))
def m_Frontier_add : mj_M := (45, prog_3_method_3_code, 2, (Option.none : Option Jvm.ClassFile.FieldType), 1, 1, 503, 501, 502, 30, 31, k_Frontier_add)
/-- WatershedMap$Frontier.takeLeast([I)I -/
def k_Frontier_takeLeast : Nat → Option mj_I := fun pc =>
  bif Nat.blt pc 40 then (bif Nat.blt pc 21 then (bif Nat.blt pc 10 then (bif Nat.blt pc 7 then (bif Nat.blt pc 1 then (bif Nat.beq pc 0 then some (.aload_n 0, 1, 0, 0, 0, mj_u) else none) else
      (bif Nat.blt pc 4 then (bif Nat.beq pc 1 then some (.getfield 15, 3, 1, 1, 153, .int 0) else none) else
       (bif Nat.beq pc 4 then some (.ifCond .ne 5, 3, 9, 0, 0, mj_u) else none))) else
     (bif Nat.blt pc 8 then (bif Nat.beq pc 7 then some (.iconst (-1), 1, 0, 0, 0, .int (-1)) else none) else
      (bif Nat.blt pc 9 then (bif Nat.beq pc 8 then some (.ireturn, 1, 0, 0, 0, mj_u) else none) else
       (bif Nat.beq pc 9 then some (.iconst 0, 1, 0, 0, 0, .int 0) else none)))) else
    (bif Nat.blt pc 13 then (bif Nat.blt pc 11 then (bif Nat.beq pc 10 then some (.istore_n 2, 1, 2, 0, 0, mj_u) else none) else
      (bif Nat.blt pc 12 then (bif Nat.beq pc 11 then some (.iconst 1, 1, 0, 0, 0, .int 1) else none) else
       (bif Nat.beq pc 12 then some (.istore_n 3, 1, 3, 0, 0, mj_u) else none))) else
     (bif Nat.blt pc 15 then (bif Nat.blt pc 14 then (bif Nat.beq pc 13 then some (.iload_n 3, 1, 3, 0, 0, mj_u) else none) else
       (bif Nat.beq pc 14 then some (.aload_n 0, 1, 0, 0, 0, mj_u) else none)) else
      (bif Nat.blt pc 18 then (bif Nat.beq pc 15 then some (.getfield 15, 3, 1, 1, 153, .int 0) else none) else
       (bif Nat.beq pc 18 then some (.if_icmp .ge 30, 3, 48, 0, 0, mj_u) else none))))) else
   (bif Nat.blt pc 29 then (bif Nat.blt pc 26 then (bif Nat.blt pc 22 then (bif Nat.beq pc 21 then some (.aload_n 1, 1, 1, 0, 0, mj_u) else none) else
      (bif Nat.blt pc 23 then (bif Nat.beq pc 22 then some (.aload_n 0, 1, 0, 0, 0, mj_u) else none) else
       (bif Nat.beq pc 23 then some (.getfield 9, 3, 1, 0, 152, .null) else none))) else
     (bif Nat.blt pc 27 then (bif Nat.beq pc 26 then some (.iload_n 3, 1, 3, 0, 0, mj_u) else none) else
      (bif Nat.blt pc 28 then (bif Nat.beq pc 27 then some (.iaload, 1, 0, 0, 0, mj_u) else none) else
       (bif Nat.beq pc 28 then some (.iaload, 1, 0, 0, 0, mj_u) else none)))) else
    (bif Nat.blt pc 34 then (bif Nat.blt pc 30 then (bif Nat.beq pc 29 then some (.aload_n 1, 1, 1, 0, 0, mj_u) else none) else
      (bif Nat.blt pc 31 then (bif Nat.beq pc 30 then some (.aload_n 0, 1, 0, 0, 0, mj_u) else none) else
       (bif Nat.beq pc 31 then some (.getfield 9, 3, 1, 0, 152, .null) else none))) else
     (bif Nat.blt pc 36 then (bif Nat.blt pc 35 then (bif Nat.beq pc 34 then some (.iload_n 2, 1, 2, 0, 0, mj_u) else none) else
       (bif Nat.beq pc 35 then some (.iaload, 1, 0, 0, 0, mj_u) else none)) else
      (bif Nat.blt pc 37 then (bif Nat.beq pc 36 then some (.iaload, 1, 0, 0, 0, mj_u) else none) else
       (bif Nat.beq pc 37 then some (.if_icmp .ge 5, 3, 42, 0, 0, mj_u) else none)))))) else
  (bif Nat.blt pc 61 then (bif Nat.blt pc 52 then (bif Nat.blt pc 45 then (bif Nat.blt pc 41 then (bif Nat.beq pc 40 then some (.iload_n 3, 1, 3, 0, 0, mj_u) else none) else
      (bif Nat.blt pc 42 then (bif Nat.beq pc 41 then some (.istore_n 2, 1, 2, 0, 0, mj_u) else none) else
       (bif Nat.beq pc 42 then some (.iinc 3 1, 3, 3, 0, 0, .int 1) else none))) else
     (bif Nat.blt pc 48 then (bif Nat.beq pc 45 then some (.goto (-32), 3, 13, 0, 0, mj_u) else none) else
      (bif Nat.blt pc 49 then (bif Nat.beq pc 48 then some (.aload_n 0, 1, 0, 0, 0, mj_u) else none) else
       (bif Nat.beq pc 49 then some (.getfield 9, 3, 1, 0, 152, .null) else none)))) else
    (bif Nat.blt pc 55 then (bif Nat.blt pc 53 then (bif Nat.beq pc 52 then some (.iload_n 2, 1, 2, 0, 0, mj_u) else none) else
      (bif Nat.blt pc 54 then (bif Nat.beq pc 53 then some (.iaload, 1, 0, 0, 0, mj_u) else none) else
       (bif Nat.beq pc 54 then some (.istore_n 3, 1, 3, 0, 0, mj_u) else none))) else
     (bif Nat.blt pc 57 then (bif Nat.blt pc 56 then (bif Nat.beq pc 55 then some (.aload_n 0, 1, 0, 0, 0, mj_u) else none) else
       (bif Nat.beq pc 56 then some (.dup, 1, 0, 0, 0, mj_u) else none)) else
      (bif Nat.blt pc 60 then (bif Nat.beq pc 57 then some (.getfield 15, 3, 1, 1, 153, .int 0) else none) else
       (bif Nat.beq pc 60 then some (.iconst 1, 1, 0, 0, 0, .int 1) else none))))) else
   (bif Nat.blt pc 71 then (bif Nat.blt pc 66 then (bif Nat.blt pc 62 then (bif Nat.beq pc 61 then some (.isub, 1, 0, 0, 0, mj_u) else none) else
      (bif Nat.blt pc 65 then (bif Nat.beq pc 62 then some (.putfield 15, 3, 1, 1, 153, .int 0) else none) else
       (bif Nat.beq pc 65 then some (.aload_n 0, 1, 0, 0, 0, mj_u) else none))) else
     (bif Nat.blt pc 69 then (bif Nat.beq pc 66 then some (.getfield 9, 3, 1, 0, 152, .null) else none) else
      (bif Nat.blt pc 70 then (bif Nat.beq pc 69 then some (.iload_n 2, 1, 2, 0, 0, mj_u) else none) else
       (bif Nat.beq pc 70 then some (.aload_n 0, 1, 0, 0, 0, mj_u) else none)))) else
    (bif Nat.blt pc 78 then (bif Nat.blt pc 74 then (bif Nat.beq pc 71 then some (.getfield 9, 3, 1, 0, 152, .null) else none) else
      (bif Nat.blt pc 75 then (bif Nat.beq pc 74 then some (.aload_n 0, 1, 0, 0, 0, mj_u) else none) else
       (bif Nat.beq pc 75 then some (.getfield 15, 3, 1, 1, 153, .int 0) else none))) else
     (bif Nat.blt pc 80 then (bif Nat.blt pc 79 then (bif Nat.beq pc 78 then some (.iaload, 1, 0, 0, 0, mj_u) else none) else
       (bif Nat.beq pc 79 then some (.iastore, 1, 0, 0, 0, mj_u) else none)) else
      (bif Nat.blt pc 81 then (bif Nat.beq pc 80 then some (.iload_n 3, 1, 3, 0, 0, mj_u) else none) else
       (bif Nat.beq pc 81 then some (.ireturn, 1, 0, 0, 0, mj_u) else none))))))
def m_Frontier_takeLeast : mj_M := (46, prog_3_method_4_code, 4, (Option.some Jvm.ClassFile.FieldType.int), 1, 1, 507, 505, 506, 30, 82, k_Frontier_takeLeast)
/-- WatershedMap$Hollows.spread(I)V -/
def k_Hollows_spread : Nat → Option mj_I := fun pc =>
  bif Nat.blt pc 33 then (bif Nat.blt pc 17 then (bif Nat.blt pc 8 then (bif Nat.blt pc 2 then (bif Nat.blt pc 1 then (bif Nat.beq pc 0 then some (.iconst 0, 1, 0, 0, 0, .int 0) else none) else
      (bif Nat.beq pc 1 then some (.istore_n 2, 1, 2, 0, 0, mj_u) else none)) else
     (bif Nat.blt pc 3 then (bif Nat.beq pc 2 then some (.iload_n 2, 1, 2, 0, 0, mj_u) else none) else
      (bif Nat.blt pc 5 then (bif Nat.beq pc 3 then some (.bipush 8, 2, 0, 0, 0, .int 8) else none) else
       (bif Nat.beq pc 5 then some (.if_icmp .ge 65, 3, 70, 0, 0, mj_u) else none)))) else
    (bif Nat.blt pc 12 then (bif Nat.blt pc 9 then (bif Nat.beq pc 8 then some (.aload_n 0, 1, 0, 0, 0, mj_u) else none) else
      (bif Nat.beq pc 9 then some (.getfield 29, 3, 3, 0, 169, .null) else none)) else
     (bif Nat.blt pc 13 then (bif Nat.beq pc 12 then some (.iload_n 1, 1, 1, 0, 0, mj_u) else none) else
      (bif Nat.blt pc 14 then (bif Nat.beq pc 13 then some (.iload_n 2, 1, 2, 0, 0, mj_u) else none) else
       (bif Nat.beq pc 14 then some (.invokevirtual 52, 3, 27, 0, 512, mj_u) else none))))) else
   (bif Nat.blt pc 26 then (bif Nat.blt pc 19 then (bif Nat.blt pc 18 then (bif Nat.beq pc 17 then some (.istore_n 3, 1, 3, 0, 0, mj_u) else none) else
      (bif Nat.beq pc 18 then some (.iload_n 3, 1, 3, 0, 0, mj_u) else none)) else
     (bif Nat.blt pc 22 then (bif Nat.beq pc 19 then some (.ifCond .lt 45, 3, 64, 0, 0, mj_u) else none) else
      (bif Nat.blt pc 23 then (bif Nat.beq pc 22 then some (.aload_n 0, 1, 0, 0, 0, mj_u) else none) else
       (bif Nat.beq pc 23 then some (.getfield 9, 3, 3, 1, 170, .null) else none)))) else
    (bif Nat.blt pc 28 then (bif Nat.blt pc 27 then (bif Nat.beq pc 26 then some (.iload_n 3, 1, 3, 0, 0, mj_u) else none) else
      (bif Nat.beq pc 27 then some (.iaload, 1, 0, 0, 0, mj_u) else none)) else
     (bif Nat.blt pc 29 then (bif Nat.beq pc 28 then some (.iconst (-1), 1, 0, 0, 0, .int (-1)) else none) else
      (bif Nat.blt pc 32 then (bif Nat.beq pc 29 then some (.if_icmp .ne 35, 3, 64, 0, 0, mj_u) else none) else
       (bif Nat.beq pc 32 then some (.aload_n 0, 1, 0, 0, 0, mj_u) else none)))))) else
  (bif Nat.blt pc 51 then (bif Nat.blt pc 42 then (bif Nat.blt pc 37 then (bif Nat.blt pc 36 then (bif Nat.beq pc 33 then some (.getfield 9, 3, 3, 1, 170, .null) else none) else
      (bif Nat.beq pc 36 then some (.iload_n 3, 1, 3, 0, 0, mj_u) else none)) else
     (bif Nat.blt pc 38 then (bif Nat.beq pc 37 then some (.aload_n 0, 1, 0, 0, 0, mj_u) else none) else
      (bif Nat.blt pc 41 then (bif Nat.beq pc 38 then some (.getfield 9, 3, 3, 1, 170, .null) else none) else
       (bif Nat.beq pc 41 then some (.iload_n 1, 1, 1, 0, 0, mj_u) else none)))) else
    (bif Nat.blt pc 44 then (bif Nat.blt pc 43 then (bif Nat.beq pc 42 then some (.iaload, 1, 0, 0, 0, mj_u) else none) else
      (bif Nat.beq pc 43 then some (.aload_n 0, 1, 0, 0, 0, mj_u) else none)) else
     (bif Nat.blt pc 47 then (bif Nat.beq pc 44 then some (.getfield 29, 3, 3, 0, 169, .null) else none) else
      (bif Nat.blt pc 50 then (bif Nat.beq pc 47 then some (.getfield 66, 3, 4, 0, 60, .null) else none) else
       (bif Nat.beq pc 50 then some (.iload_n 3, 1, 3, 0, 0, mj_u) else none))))) else
   (bif Nat.blt pc 60 then (bif Nat.blt pc 55 then (bif Nat.blt pc 52 then (bif Nat.beq pc 51 then some (.iaload, 1, 0, 0, 0, mj_u) else none) else
      (bif Nat.beq pc 52 then some (.invokestatic 80, 3, 22, 0, 513, mj_u) else none)) else
     (bif Nat.blt pc 56 then (bif Nat.beq pc 55 then some (.iastore, 1, 0, 0, 0, mj_u) else none) else
      (bif Nat.blt pc 57 then (bif Nat.beq pc 56 then some (.aload_n 0, 1, 0, 0, 0, mj_u) else none) else
       (bif Nat.beq pc 57 then some (.getfield 18, 3, 3, 2, 172, .null) else none)))) else
    (bif Nat.blt pc 64 then (bif Nat.blt pc 61 then (bif Nat.beq pc 60 then some (.iload_n 3, 1, 3, 0, 0, mj_u) else none) else
      (bif Nat.beq pc 61 then some (.invokevirtual 69, 3, 45, 0, 500, mj_u) else none)) else
     (bif Nat.blt pc 67 then (bif Nat.beq pc 64 then some (.iinc 2 2, 3, 2, 0, 0, .int 2) else none) else
      (bif Nat.blt pc 70 then (bif Nat.beq pc 67 then some (.goto (-65), 3, 2, 0, 0, mj_u) else none) else
       (bif Nat.beq pc 70 then some (.return_, 1, 0, 0, 0, mj_u) else none))))))
def m_Hollows_spread : mj_M := (47, prog_5_method_4_code, 4, (Option.none : Option Jvm.ClassFile.FieldType), 3, 1, 511, 510, 9, 29, 71, k_Hollows_spread)
/-- WatershedMap$Groups.part()V -/
def k_Groups_part : Nat → Option mj_I := fun pc =>
  bif Nat.blt pc 10 then (bif Nat.blt pc 3 then (bif Nat.blt pc 1 then (bif Nat.beq pc 0 then some (.iconst 0, 1, 0, 0, 0, .int 0) else none) else
    (bif Nat.blt pc 2 then (bif Nat.beq pc 1 then some (.istore_n 1, 1, 1, 0, 0, mj_u) else none) else
     (bif Nat.beq pc 2 then some (.iload_n 1, 1, 1, 0, 0, mj_u) else none))) else
   (bif Nat.blt pc 6 then (bif Nat.beq pc 3 then some (.sipush 512, 3, 0, 0, 0, .int 512) else none) else
    (bif Nat.blt pc 9 then (bif Nat.beq pc 6 then some (.if_icmp .ge 16, 3, 22, 0, 0, mj_u) else none) else
     (bif Nat.beq pc 9 then some (.aload_n 0, 1, 0, 0, 0, mj_u) else none)))) else
  (bif Nat.blt pc 15 then (bif Nat.blt pc 13 then (bif Nat.beq pc 10 then some (.getfield 9, 3, 2, 0, 165, .null) else none) else
    (bif Nat.blt pc 14 then (bif Nat.beq pc 13 then some (.iload_n 1, 1, 1, 0, 0, mj_u) else none) else
     (bif Nat.beq pc 14 then some (.iload_n 1, 1, 1, 0, 0, mj_u) else none))) else
   (bif Nat.blt pc 19 then (bif Nat.blt pc 16 then (bif Nat.beq pc 15 then some (.iastore, 1, 0, 0, 0, mj_u) else none) else
     (bif Nat.beq pc 16 then some (.iinc 1 1, 3, 1, 0, 0, .int 1) else none)) else
    (bif Nat.blt pc 22 then (bif Nat.beq pc 19 then some (.goto (-17), 3, 2, 0, 0, mj_u) else none) else
     (bif Nat.beq pc 22 then some (.return_, 1, 0, 0, 0, mj_u) else none))))
def m_Groups_part : mj_M := (48, prog_4_method_2_code, 2, (Option.none : Option Jvm.ClassFile.FieldType), 2, 0, 517, 515, 516, 31, 23, k_Groups_part)
/-- WatershedMap$Hollows.inLake(I)Z -/
def k_Hollows_inLake : Nat → Option mj_I := fun pc =>
  bif Nat.blt pc 8 then (bif Nat.blt pc 2 then (bif Nat.blt pc 1 then (bif Nat.beq pc 0 then some (.aload_n 0, 1, 0, 0, 0, mj_u) else none) else
    (bif Nat.beq pc 1 then some (.iload_n 1, 1, 1, 0, 0, mj_u) else none)) else
   (bif Nat.blt pc 5 then (bif Nat.beq pc 2 then some (.invokevirtual 89, 3, 50, 0, 522, mj_u) else none) else
    (bif Nat.beq pc 5 then some (.ifCond .le 7, 3, 12, 0, 0, mj_u) else none))) else
  (bif Nat.blt pc 12 then (bif Nat.blt pc 9 then (bif Nat.beq pc 8 then some (.iconst 1, 1, 0, 0, 0, .int 1) else none) else
    (bif Nat.beq pc 9 then some (.goto 4, 3, 13, 0, 0, mj_u) else none)) else
   (bif Nat.blt pc 13 then (bif Nat.beq pc 12 then some (.iconst 0, 1, 0, 0, 0, .int 0) else none) else
    (bif Nat.beq pc 13 then some (.ireturn, 1, 0, 0, 0, mj_u) else none)))
def m_Hollows_inLake : mj_M := (49, prog_5_method_6_code, 2, (Option.some Jvm.ClassFile.FieldType.boolean), 3, 1, 521, 520, 10, 29, 14, k_Hollows_inLake)
/-- WatershedMap$Hollows.depth(I)I -/
def k_Hollows_depth : Nat → Option mj_I := fun pc =>
  bif Nat.blt pc 7 then (bif Nat.blt pc 4 then (bif Nat.blt pc 1 then (bif Nat.beq pc 0 then some (.aload_n 0, 1, 0, 0, 0, mj_u) else none) else
    (bif Nat.beq pc 1 then some (.getfield 9, 3, 3, 1, 170, .null) else none)) else
   (bif Nat.blt pc 5 then (bif Nat.beq pc 4 then some (.iload_n 1, 1, 1, 0, 0, mj_u) else none) else
    (bif Nat.blt pc 6 then (bif Nat.beq pc 5 then some (.iaload, 1, 0, 0, 0, mj_u) else none) else
     (bif Nat.beq pc 6 then some (.aload_n 0, 1, 0, 0, 0, mj_u) else none)))) else
  (bif Nat.blt pc 14 then (bif Nat.blt pc 10 then (bif Nat.beq pc 7 then some (.getfield 29, 3, 3, 0, 169, .null) else none) else
    (bif Nat.blt pc 13 then (bif Nat.beq pc 10 then some (.getfield 66, 3, 4, 0, 60, .null) else none) else
     (bif Nat.beq pc 13 then some (.iload_n 1, 1, 1, 0, 0, mj_u) else none))) else
   (bif Nat.blt pc 15 then (bif Nat.beq pc 14 then some (.iaload, 1, 0, 0, 0, mj_u) else none) else
    (bif Nat.blt pc 16 then (bif Nat.beq pc 15 then some (.isub, 1, 0, 0, 0, mj_u) else none) else
     (bif Nat.beq pc 16 then some (.ireturn, 1, 0, 0, 0, mj_u) else none))))
def m_Hollows_depth : mj_M := (50, prog_5_method_7_code, 2, (Option.some Jvm.ClassFile.FieldType.int), 3, 1, 525, 524, 11, 29, 17, k_Hollows_depth)
/-- WatershedMap$Hollows.joinLakes(II)V -/
def k_Hollows_joinLakes : Nat → Option mj_I := fun pc =>
  bif Nat.blt pc 17 then (bif Nat.blt pc 6 then (bif Nat.blt pc 4 then (bif Nat.blt pc 1 then (bif Nat.beq pc 0 then some (.iload_n 2, 1, 2, 0, 0, mj_u) else none) else
     (bif Nat.beq pc 1 then some (.ifCond .lt 33, 3, 34, 0, 0, mj_u) else none)) else
    (bif Nat.blt pc 5 then (bif Nat.beq pc 4 then some (.aload_n 0, 1, 0, 0, 0, mj_u) else none) else
     (bif Nat.beq pc 5 then some (.iload_n 2, 1, 2, 0, 0, mj_u) else none))) else
   (bif Nat.blt pc 12 then (bif Nat.blt pc 9 then (bif Nat.beq pc 6 then some (.invokevirtual 48, 3, 49, 0, 518, mj_u) else none) else
     (bif Nat.beq pc 9 then some (.ifCond .eq 25, 3, 34, 0, 0, mj_u) else none)) else
    (bif Nat.blt pc 13 then (bif Nat.beq pc 12 then some (.aload_n 0, 1, 0, 0, 0, mj_u) else none) else
     (bif Nat.blt pc 16 then (bif Nat.beq pc 13 then some (.getfield 25, 3, 3, 3, 173, .null) else none) else
      (bif Nat.beq pc 16 then some (.iload_n 1, 1, 1, 0, 0, mj_u) else none))))) else
  (bif Nat.blt pc 26 then (bif Nat.blt pc 21 then (bif Nat.blt pc 18 then (bif Nat.beq pc 17 then some (.iload_n 2, 1, 2, 0, 0, mj_u) else none) else
     (bif Nat.beq pc 18 then some (.invokevirtual 85, 3, 52, 0, 530, mj_u) else none)) else
    (bif Nat.blt pc 24 then (bif Nat.beq pc 21 then some (.ifCond .eq 13, 3, 34, 0, 0, mj_u) else none) else
     (bif Nat.blt pc 25 then (bif Nat.beq pc 24 then some (.aload_n 0, 1, 0, 0, 0, mj_u) else none) else
      (bif Nat.beq pc 25 then some (.dup, 1, 0, 0, 0, mj_u) else none)))) else
   (bif Nat.blt pc 30 then (bif Nat.blt pc 29 then (bif Nat.beq pc 26 then some (.getfield 39, 3, 3, 4, 174, .int 0) else none) else
     (bif Nat.beq pc 29 then some (.iconst 1, 1, 0, 0, 0, .int 1) else none)) else
    (bif Nat.blt pc 31 then (bif Nat.beq pc 30 then some (.isub, 1, 0, 0, 0, mj_u) else none) else
     (bif Nat.blt pc 34 then (bif Nat.beq pc 31 then some (.putfield 39, 3, 3, 4, 174, .int 0) else none) else
      (bif Nat.beq pc 34 then some (.return_, 1, 0, 0, 0, mj_u) else none)))))
def m_Hollows_joinLakes : mj_M := (51, prog_5_method_5_code, 3, (Option.none : Option Jvm.ClassFile.FieldType), 3, 2, 529, 528, 12, 29, 35, k_Hollows_joinLakes)
/-- WatershedMap$Groups.join(II)Z -/
def k_Groups_join : Nat → Option mj_I := fun pc =>
  bif Nat.blt pc 17 then (bif Nat.blt pc 7 then (bif Nat.blt pc 2 then (bif Nat.blt pc 1 then (bif Nat.beq pc 0 then some (.aload_n 0, 1, 0, 0, 0, mj_u) else none) else
     (bif Nat.beq pc 1 then some (.iload_n 1, 1, 1, 0, 0, mj_u) else none)) else
    (bif Nat.blt pc 5 then (bif Nat.beq pc 2 then some (.invokevirtual 15, 3, 53, 0, 534, mj_u) else none) else
     (bif Nat.blt pc 6 then (bif Nat.beq pc 5 then some (.istore_n 3, 1, 3, 0, 0, mj_u) else none) else
      (bif Nat.beq pc 6 then some (.aload_n 0, 1, 0, 0, 0, mj_u) else none)))) else
   (bif Nat.blt pc 11 then (bif Nat.blt pc 8 then (bif Nat.beq pc 7 then some (.iload_n 2, 1, 2, 0, 0, mj_u) else none) else
     (bif Nat.beq pc 8 then some (.invokevirtual 15, 3, 53, 0, 534, mj_u) else none)) else
    (bif Nat.blt pc 13 then (bif Nat.beq pc 11 then some (.istore 4, 2, 4, 0, 0, mj_u) else none) else
     (bif Nat.blt pc 14 then (bif Nat.beq pc 13 then some (.aload_n 0, 1, 0, 0, 0, mj_u) else none) else
      (bif Nat.beq pc 14 then some (.getfield 9, 3, 2, 0, 165, .null) else none))))) else
  (bif Nat.blt pc 24 then (bif Nat.blt pc 20 then (bif Nat.blt pc 19 then (bif Nat.beq pc 17 then some (.iload 4, 2, 4, 0, 0, mj_u) else none) else
     (bif Nat.beq pc 19 then some (.iload_n 3, 1, 3, 0, 0, mj_u) else none)) else
    (bif Nat.blt pc 21 then (bif Nat.beq pc 20 then some (.iastore, 1, 0, 0, 0, mj_u) else none) else
     (bif Nat.blt pc 23 then (bif Nat.beq pc 21 then some (.iload 4, 2, 4, 0, 0, mj_u) else none) else
      (bif Nat.beq pc 23 then some (.iload_n 3, 1, 3, 0, 0, mj_u) else none)))) else
   (bif Nat.blt pc 28 then (bif Nat.blt pc 27 then (bif Nat.beq pc 24 then some (.if_icmp .eq 7, 3, 31, 0, 0, mj_u) else none) else
     (bif Nat.beq pc 27 then some (.iconst 1, 1, 0, 0, 0, .int 1) else none)) else
    (bif Nat.blt pc 31 then (bif Nat.beq pc 28 then some (.goto 4, 3, 32, 0, 0, mj_u) else none) else
     (bif Nat.blt pc 32 then (bif Nat.beq pc 31 then some (.iconst 0, 1, 0, 0, 0, .int 0) else none) else
      (bif Nat.beq pc 32 then some (.ireturn, 1, 0, 0, 0, mj_u) else none)))))
def m_Groups_join : mj_M := (52, prog_4_method_4_code, 5, (Option.some Jvm.ClassFile.FieldType.boolean), 2, 2, 533, 531, 532, 31, 33, k_Groups_join)
/-- WatershedMap$Groups.leaderOf(I)I -/
def k_Groups_leaderOf : Nat → Option mj_I := fun pc =>
  bif Nat.blt pc 21 then (bif Nat.blt pc 8 then (bif Nat.blt pc 3 then (bif Nat.blt pc 1 then (bif Nat.beq pc 0 then some (.iload_n 1, 1, 1, 0, 0, mj_u) else none) else
     (bif Nat.blt pc 2 then (bif Nat.beq pc 1 then some (.istore_n 2, 1, 2, 0, 0, mj_u) else none) else
      (bif Nat.beq pc 2 then some (.iconst 0, 1, 0, 0, 0, .int 0) else none))) else
    (bif Nat.blt pc 4 then (bif Nat.beq pc 3 then some (.istore_n 3, 1, 3, 0, 0, mj_u) else none) else
     (bif Nat.blt pc 5 then (bif Nat.beq pc 4 then some (.iload_n 3, 1, 3, 0, 0, mj_u) else none) else
      (bif Nat.beq pc 5 then some (.sipush 512, 3, 0, 0, 0, .int 512) else none)))) else
   (bif Nat.blt pc 15 then (bif Nat.blt pc 11 then (bif Nat.beq pc 8 then some (.if_icmp .ge 26, 3, 34, 0, 0, mj_u) else none) else
     (bif Nat.blt pc 12 then (bif Nat.beq pc 11 then some (.aload_n 0, 1, 0, 0, 0, mj_u) else none) else
      (bif Nat.beq pc 12 then some (.getfield 9, 3, 2, 0, 165, .null) else none))) else
    (bif Nat.blt pc 17 then (bif Nat.blt pc 16 then (bif Nat.beq pc 15 then some (.iload_n 2, 1, 2, 0, 0, mj_u) else none) else
      (bif Nat.beq pc 16 then some (.iaload, 1, 0, 0, 0, mj_u) else none)) else
     (bif Nat.blt pc 18 then (bif Nat.beq pc 17 then some (.iload_n 2, 1, 2, 0, 0, mj_u) else none) else
      (bif Nat.beq pc 18 then some (.if_icmp .eq 16, 3, 34, 0, 0, mj_u) else none))))) else
  (bif Nat.blt pc 34 then (bif Nat.blt pc 26 then (bif Nat.blt pc 22 then (bif Nat.beq pc 21 then some (.aload_n 0, 1, 0, 0, 0, mj_u) else none) else
     (bif Nat.blt pc 25 then (bif Nat.beq pc 22 then some (.getfield 9, 3, 2, 0, 165, .null) else none) else
      (bif Nat.beq pc 25 then some (.iload_n 2, 1, 2, 0, 0, mj_u) else none))) else
    (bif Nat.blt pc 28 then (bif Nat.blt pc 27 then (bif Nat.beq pc 26 then some (.iaload, 1, 0, 0, 0, mj_u) else none) else
      (bif Nat.beq pc 27 then some (.istore_n 2, 1, 2, 0, 0, mj_u) else none)) else
     (bif Nat.blt pc 31 then (bif Nat.beq pc 28 then some (.iinc 3 1, 3, 3, 0, 0, .int 1) else none) else
      (bif Nat.beq pc 31 then some (.goto (-27), 3, 4, 0, 0, mj_u) else none)))) else
   (bif Nat.blt pc 39 then (bif Nat.blt pc 35 then (bif Nat.beq pc 34 then some (.aload_n 0, 1, 0, 0, 0, mj_u) else none) else
     (bif Nat.blt pc 38 then (bif Nat.beq pc 35 then some (.getfield 9, 3, 2, 0, 165, .null) else none) else
      (bif Nat.beq pc 38 then some (.iload_n 1, 1, 1, 0, 0, mj_u) else none))) else
    (bif Nat.blt pc 41 then (bif Nat.blt pc 40 then (bif Nat.beq pc 39 then some (.iload_n 2, 1, 2, 0, 0, mj_u) else none) else
      (bif Nat.beq pc 40 then some (.iastore, 1, 0, 0, 0, mj_u) else none)) else
     (bif Nat.blt pc 42 then (bif Nat.beq pc 41 then some (.iload_n 2, 1, 2, 0, 0, mj_u) else none) else
      (bif Nat.beq pc 42 then some (.ireturn, 1, 0, 0, 0, mj_u) else none)))))
def m_Groups_leaderOf : mj_M := (53, prog_4_method_3_code, 4, (Option.some Jvm.ClassFile.FieldType.int), 2, 1, 537, 535, 536, 31, 43, k_Groups_leaderOf)
/-- WatershedMap$Land.raiseTo([I)I -/
def k_Land_raiseTo : Nat → Option mj_I := fun pc =>
  bif Nat.blt pc 16 then (bif Nat.blt pc 6 then (bif Nat.blt pc 3 then (bif Nat.blt pc 1 then (bif Nat.beq pc 0 then some (.iconst 0, 1, 0, 0, 0, .int 0) else none) else
     (bif Nat.blt pc 2 then (bif Nat.beq pc 1 then some (.istore_n 2, 1, 2, 0, 0, mj_u) else none) else
      (bif Nat.beq pc 2 then some (.iconst 0, 1, 0, 0, 0, .int 0) else none))) else
    (bif Nat.blt pc 4 then (bif Nat.beq pc 3 then some (.istore_n 3, 1, 3, 0, 0, mj_u) else none) else
     (bif Nat.blt pc 5 then (bif Nat.beq pc 4 then some (.iload_n 3, 1, 3, 0, 0, mj_u) else none) else
      (bif Nat.beq pc 5 then some (.aload_n 0, 1, 0, 0, 0, mj_u) else none)))) else
   (bif Nat.blt pc 13 then (bif Nat.blt pc 9 then (bif Nat.beq pc 6 then some (.getfield 28, 3, 4, 5, 73, .int 0) else none) else
     (bif Nat.blt pc 12 then (bif Nat.beq pc 9 then some (.if_icmp .ge 24, 3, 33, 0, 0, mj_u) else none) else
      (bif Nat.beq pc 12 then some (.iload_n 2, 1, 2, 0, 0, mj_u) else none))) else
    (bif Nat.blt pc 14 then (bif Nat.beq pc 13 then some (.aload_n 1, 1, 1, 0, 0, mj_u) else none) else
     (bif Nat.blt pc 15 then (bif Nat.beq pc 14 then some (.iload_n 3, 1, 3, 0, 0, mj_u) else none) else
      (bif Nat.beq pc 15 then some (.iaload, 1, 0, 0, 0, mj_u) else none))))) else
  (bif Nat.blt pc 24 then (bif Nat.blt pc 19 then (bif Nat.blt pc 17 then (bif Nat.beq pc 16 then some (.aload_n 0, 1, 0, 0, 0, mj_u) else none) else
     (bif Nat.blt pc 18 then (bif Nat.beq pc 17 then some (.iload_n 3, 1, 3, 0, 0, mj_u) else none) else
      (bif Nat.beq pc 18 then some (.aload_n 1, 1, 1, 0, 0, mj_u) else none))) else
    (bif Nat.blt pc 20 then (bif Nat.beq pc 19 then some (.iload_n 3, 1, 3, 0, 0, mj_u) else none) else
     (bif Nat.blt pc 21 then (bif Nat.beq pc 20 then some (.iaload, 1, 0, 0, 0, mj_u) else none) else
      (bif Nat.beq pc 21 then some (.invokevirtual 80, 3, 18, 0, 403, mj_u) else none)))) else
   (bif Nat.blt pc 27 then (bif Nat.blt pc 25 then (bif Nat.beq pc 24 then some (.isub, 1, 0, 0, 0, mj_u) else none) else
     (bif Nat.blt pc 26 then (bif Nat.beq pc 25 then some (.iadd, 1, 0, 0, 0, mj_u) else none) else
      (bif Nat.beq pc 26 then some (.istore_n 2, 1, 2, 0, 0, mj_u) else none))) else
    (bif Nat.blt pc 33 then (bif Nat.blt pc 30 then (bif Nat.beq pc 27 then some (.iinc 3 1, 3, 3, 0, 0, .int 1) else none) else
      (bif Nat.beq pc 30 then some (.goto (-26), 3, 4, 0, 0, mj_u) else none)) else
     (bif Nat.blt pc 34 then (bif Nat.beq pc 33 then some (.iload_n 2, 1, 2, 0, 0, mj_u) else none) else
      (bif Nat.beq pc 34 then some (.ireturn, 1, 0, 0, 0, mj_u) else none)))))
def m_Land_raiseTo : mj_M := (54, prog_6_method_22_code, 4, (Option.some Jvm.ClassFile.FieldType.int), 4, 1, 541, 539, 540, 27, 35, k_Land_raiseTo)
/-- WatershedMap.setBrook(I)I -/
def k_W_setBrook : Nat → Option mj_I := fun pc =>
  bif Nat.blt pc 11 then (bif Nat.blt pc 4 then (bif Nat.blt pc 1 then (bif Nat.beq pc 0 then some (.iload_n 1, 1, 1, 0, 0, mj_u) else none) else
    (bif Nat.blt pc 2 then (bif Nat.beq pc 1 then some (.iconst 1, 1, 0, 0, 0, .int 1) else none) else
     (bif Nat.beq pc 2 then some (.bipush 100, 2, 0, 0, 0, .int 100) else none))) else
   (bif Nat.blt pc 7 then (bif Nat.beq pc 4 then some (.invokestatic 65, 3, 15, 0, 295, mj_u) else none) else
    (bif Nat.blt pc 8 then (bif Nat.beq pc 7 then some (.aload_n 0, 1, 0, 0, 0, mj_u) else none) else
     (bif Nat.beq pc 8 then some (.getfield 57, 3, 8, 7, 273, .int 0) else none)))) else
  (bif Nat.blt pc 14 then (bif Nat.blt pc 12 then (bif Nat.beq pc 11 then some (.istore_n 2, 1, 2, 0, 0, mj_u) else none) else
    (bif Nat.blt pc 13 then (bif Nat.beq pc 12 then some (.aload_n 0, 1, 0, 0, 0, mj_u) else none) else
     (bif Nat.beq pc 13 then some (.iload_n 1, 1, 1, 0, 0, mj_u) else none))) else
   (bif Nat.blt pc 17 then (bif Nat.beq pc 14 then some (.putfield 57, 3, 8, 7, 273, .int 0) else none) else
    (bif Nat.blt pc 18 then (bif Nat.beq pc 17 then some (.iload_n 2, 1, 2, 0, 0, mj_u) else none) else
     (bif Nat.beq pc 18 then some (.ireturn, 1, 0, 0, 0, mj_u) else none))))
def m_W_setBrook : mj_M := (55, prog_1_method_10_code, 3, (Option.some Jvm.ClassFile.FieldType.int), 8, 1, 545, 543, 544, 26, 19, k_W_setBrook)
/-- WatershedMap.map(I)I -/
def k_W_map : Nat → Option mj_I := fun pc =>
  bif Nat.blt pc 6 then (bif Nat.blt pc 2 then (bif Nat.blt pc 1 then (bif Nat.beq pc 0 then some (.iload_n 1, 1, 1, 0, 0, mj_u) else none) else
    (bif Nat.beq pc 1 then some (.iconst 0, 1, 0, 0, 0, .int 0) else none)) else
   (bif Nat.blt pc 3 then (bif Nat.beq pc 2 then some (.iconst 4, 1, 0, 0, 0, .int 4) else none) else
    (bif Nat.beq pc 3 then some (.invokestatic 65, 3, 15, 0, 295, mj_u) else none))) else
  (bif Nat.blt pc 10 then (bif Nat.blt pc 7 then (bif Nat.beq pc 6 then some (.aload_n 0, 1, 0, 0, 0, mj_u) else none) else
    (bif Nat.beq pc 7 then some (.getfield 10, 3, 8, 0, 266, .null) else none)) else
   (bif Nat.blt pc 11 then (bif Nat.beq pc 10 then some (.iload_n 1, 1, 1, 0, 0, mj_u) else none) else
    (bif Nat.blt pc 14 then (bif Nat.beq pc 11 then some (.invokevirtual 118, 3, 57, 0, 550, mj_u) else none) else
     (bif Nat.beq pc 14 then some (.ireturn, 1, 0, 0, 0, mj_u) else none))))
def m_W_map : mj_M := (56, prog_1_method_11_code, 2, (Option.some Jvm.ClassFile.FieldType.int), 8, 1, 549, 547, 548, 26, 15, k_W_map)
/-- WatershedMap$Land.told(I)I -/
def k_Land_told : Nat → Option mj_I := fun pc =>
  bif Nat.blt pc 42 then (bif Nat.blt pc 36 then (bif Nat.blt pc 32 then (bif Nat.blt pc 1 then (bif Nat.beq pc 0 then some (.iload_n 1, 1, 1, 0, 0, mj_u) else none) else
     (bif Nat.beq pc 1 then some (.tableswitch 51 0 3 #[31, 36, 41, 46], 31, 52, 0, 0, mj_u) else none)) else
    (bif Nat.blt pc 33 then (bif Nat.beq pc 32 then some (.aload_n 0, 1, 0, 0, 0, mj_u) else none) else
     (bif Nat.beq pc 33 then some (.getfield 21, 3, 4, 3, 65, .int 0) else none))) else
   (bif Nat.blt pc 38 then (bif Nat.blt pc 37 then (bif Nat.beq pc 36 then some (.ireturn, 1, 0, 0, 0, mj_u) else none) else
     (bif Nat.beq pc 37 then some (.aload_n 0, 1, 0, 0, 0, mj_u) else none)) else
    (bif Nat.blt pc 41 then (bif Nat.beq pc 38 then some (.getfield 25, 3, 4, 4, 69, .int 0) else none) else
     (bif Nat.beq pc 41 then some (.ireturn, 1, 0, 0, 0, mj_u) else none)))) else
  (bif Nat.blt pc 48 then (bif Nat.blt pc 46 then (bif Nat.blt pc 43 then (bif Nat.beq pc 42 then some (.aload_n 0, 1, 0, 0, 0, mj_u) else none) else
     (bif Nat.beq pc 43 then some (.invokevirtual 64, 3, 58, 0, 554, mj_u) else none)) else
    (bif Nat.blt pc 47 then (bif Nat.beq pc 46 then some (.ireturn, 1, 0, 0, 0, mj_u) else none) else
     (bif Nat.beq pc 47 then some (.aload_n 0, 1, 0, 0, 0, mj_u) else none))) else
   (bif Nat.blt pc 52 then (bif Nat.blt pc 51 then (bif Nat.beq pc 48 then some (.invokevirtual 68, 3, 21, 0, 558, mj_u) else none) else
     (bif Nat.beq pc 51 then some (.ireturn, 1, 0, 0, 0, mj_u) else none)) else
    (bif Nat.blt pc 53 then (bif Nat.beq pc 52 then some (.aload_n 0, 1, 0, 0, 0, mj_u) else none) else
     (bif Nat.blt pc 56 then (bif Nat.beq pc 53 then some (.invokevirtual 71, 3, 59, 0, 559, mj_u) else none) else
      (bif Nat.beq pc 56 then some (.ireturn, 1, 0, 0, 0, mj_u) else none)))))
def m_Land_told : mj_M := (57, prog_6_method_11_code, 2, (Option.some Jvm.ClassFile.FieldType.int), 4, 1, 553, 551, 552, 27, 57, k_Land_told)
/-- WatershedMap$Land.lowest()I -/
def k_Land_lowest : Nat → Option mj_I := fun pc =>
  bif Nat.blt pc 15 then (bif Nat.blt pc 6 then (bif Nat.blt pc 4 then (bif Nat.blt pc 3 then (bif Nat.beq pc 0 then some (.sipush 999, 3, 0, 0, 0, .int 999) else none) else
     (bif Nat.beq pc 3 then some (.istore_n 1, 1, 1, 0, 0, mj_u) else none)) else
    (bif Nat.blt pc 5 then (bif Nat.beq pc 4 then some (.iconst 0, 1, 0, 0, 0, .int 0) else none) else
     (bif Nat.beq pc 5 then some (.istore_n 2, 1, 2, 0, 0, mj_u) else none))) else
   (bif Nat.blt pc 8 then (bif Nat.blt pc 7 then (bif Nat.beq pc 6 then some (.iload_n 2, 1, 2, 0, 0, mj_u) else none) else
     (bif Nat.beq pc 7 then some (.aload_n 0, 1, 0, 0, 0, mj_u) else none)) else
    (bif Nat.blt pc 11 then (bif Nat.beq pc 8 then some (.getfield 28, 3, 4, 5, 73, .int 0) else none) else
     (bif Nat.blt pc 14 then (bif Nat.beq pc 11 then some (.if_icmp .ge 20, 3, 31, 0, 0, mj_u) else none) else
      (bif Nat.beq pc 14 then some (.iload_n 1, 1, 1, 0, 0, mj_u) else none))))) else
  (bif Nat.blt pc 24 then (bif Nat.blt pc 19 then (bif Nat.blt pc 16 then (bif Nat.beq pc 15 then some (.aload_n 0, 1, 0, 0, 0, mj_u) else none) else
     (bif Nat.beq pc 16 then some (.getfield 9, 3, 4, 0, 57, .null) else none)) else
    (bif Nat.blt pc 20 then (bif Nat.beq pc 19 then some (.iload_n 2, 1, 2, 0, 0, mj_u) else none) else
     (bif Nat.blt pc 21 then (bif Nat.beq pc 20 then some (.iaload, 1, 0, 0, 0, mj_u) else none) else
      (bif Nat.beq pc 21 then some (.invokestatic 74, 3, 40, 0, 480, mj_u) else none)))) else
   (bif Nat.blt pc 28 then (bif Nat.blt pc 25 then (bif Nat.beq pc 24 then some (.istore_n 1, 1, 1, 0, 0, mj_u) else none) else
     (bif Nat.beq pc 25 then some (.iinc 2 1, 3, 2, 0, 0, .int 1) else none)) else
    (bif Nat.blt pc 31 then (bif Nat.beq pc 28 then some (.goto (-22), 3, 6, 0, 0, mj_u) else none) else
     (bif Nat.blt pc 32 then (bif Nat.beq pc 31 then some (.iload_n 1, 1, 1, 0, 0, mj_u) else none) else
      (bif Nat.beq pc 32 then some (.ireturn, 1, 0, 0, 0, mj_u) else none)))))
def m_Land_lowest : mj_M := (58, prog_6_method_12_code, 3, (Option.some Jvm.ClassFile.FieldType.int), 4, 0, 557, 556, 13, 27, 33, k_Land_lowest)
/-- WatershedMap$Land.sum()I -/
def k_Land_sum : Nat → Option mj_I := fun pc =>
  bif Nat.blt pc 13 then (bif Nat.blt pc 4 then (bif Nat.blt pc 2 then (bif Nat.blt pc 1 then (bif Nat.beq pc 0 then some (.iconst 0, 1, 0, 0, 0, .int 0) else none) else
     (bif Nat.beq pc 1 then some (.istore_n 1, 1, 1, 0, 0, mj_u) else none)) else
    (bif Nat.blt pc 3 then (bif Nat.beq pc 2 then some (.iconst 0, 1, 0, 0, 0, .int 0) else none) else
     (bif Nat.beq pc 3 then some (.istore_n 2, 1, 2, 0, 0, mj_u) else none))) else
   (bif Nat.blt pc 6 then (bif Nat.blt pc 5 then (bif Nat.beq pc 4 then some (.iload_n 2, 1, 2, 0, 0, mj_u) else none) else
     (bif Nat.beq pc 5 then some (.aload_n 0, 1, 0, 0, 0, mj_u) else none)) else
    (bif Nat.blt pc 9 then (bif Nat.beq pc 6 then some (.getfield 28, 3, 4, 5, 73, .int 0) else none) else
     (bif Nat.blt pc 12 then (bif Nat.beq pc 9 then some (.if_icmp .ge 18, 3, 27, 0, 0, mj_u) else none) else
      (bif Nat.beq pc 12 then some (.iload_n 1, 1, 1, 0, 0, mj_u) else none))))) else
  (bif Nat.blt pc 20 then (bif Nat.blt pc 17 then (bif Nat.blt pc 14 then (bif Nat.beq pc 13 then some (.aload_n 0, 1, 0, 0, 0, mj_u) else none) else
     (bif Nat.beq pc 14 then some (.getfield 9, 3, 4, 0, 57, .null) else none)) else
    (bif Nat.blt pc 18 then (bif Nat.beq pc 17 then some (.iload_n 2, 1, 2, 0, 0, mj_u) else none) else
     (bif Nat.blt pc 19 then (bif Nat.beq pc 18 then some (.iaload, 1, 0, 0, 0, mj_u) else none) else
      (bif Nat.beq pc 19 then some (.iadd, 1, 0, 0, 0, mj_u) else none)))) else
   (bif Nat.blt pc 24 then (bif Nat.blt pc 21 then (bif Nat.beq pc 20 then some (.istore_n 1, 1, 1, 0, 0, mj_u) else none) else
     (bif Nat.beq pc 21 then some (.iinc 2 1, 3, 2, 0, 0, .int 1) else none)) else
    (bif Nat.blt pc 27 then (bif Nat.beq pc 24 then some (.goto (-20), 3, 4, 0, 0, mj_u) else none) else
     (bif Nat.blt pc 28 then (bif Nat.beq pc 27 then some (.iload_n 1, 1, 1, 0, 0, mj_u) else none) else
      (bif Nat.beq pc 28 then some (.ireturn, 1, 0, 0, 0, mj_u) else none)))))
def m_Land_sum : mj_M := (59, prog_6_method_14_code, 3, (Option.some Jvm.ClassFile.FieldType.int), 4, 0, 562, 561, 14, 27, 29, k_Land_sum)
/-- WatershedMap.height(II)I -/
def k_W_height : Nat → Option mj_I := fun pc =>
  bif Nat.blt pc 13 then (bif Nat.blt pc 3 then (bif Nat.blt pc 1 then (bif Nat.beq pc 0 then some (.aload_n 0, 1, 0, 0, 0, mj_u) else none) else
    (bif Nat.blt pc 2 then (bif Nat.beq pc 1 then some (.iload_n 1, 1, 1, 0, 0, mj_u) else none) else
     (bif Nat.beq pc 2 then some (.iload_n 2, 1, 2, 0, 0, mj_u) else none))) else
   (bif Nat.blt pc 7 then (bif Nat.blt pc 6 then (bif Nat.beq pc 3 then some (.invokevirtual 72, 3, 17, 0, 369, mj_u) else none) else
     (bif Nat.beq pc 6 then some (.aload_n 0, 1, 0, 0, 0, mj_u) else none)) else
    (bif Nat.blt pc 10 then (bif Nat.beq pc 7 then some (.getfield 10, 3, 8, 0, 266, .null) else none) else
     (bif Nat.beq pc 10 then some (.getfield 122, 3, 4, 0, 62, .null) else none)))) else
  (bif Nat.blt pc 18 then (bif Nat.blt pc 14 then (bif Nat.beq pc 13 then some (.aload_n 0, 1, 0, 0, 0, mj_u) else none) else
    (bif Nat.blt pc 17 then (bif Nat.beq pc 14 then some (.getfield 10, 3, 8, 0, 266, .null) else none) else
     (bif Nat.beq pc 17 then some (.iload_n 1, 1, 1, 0, 0, mj_u) else none))) else
   (bif Nat.blt pc 22 then (bif Nat.blt pc 19 then (bif Nat.beq pc 18 then some (.iload_n 2, 1, 2, 0, 0, mj_u) else none) else
     (bif Nat.beq pc 19 then some (.invokevirtual 75, 3, 12, 0, 390, mj_u) else none)) else
    (bif Nat.blt pc 23 then (bif Nat.beq pc 22 then some (.iaload, 1, 0, 0, 0, mj_u) else none) else
     (bif Nat.beq pc 23 then some (.ireturn, 1, 0, 0, 0, mj_u) else none))))
def m_W_height : mj_M := (60, prog_1_method_12_code, 3, (Option.some Jvm.ClassFile.FieldType.int), 8, 2, 566, 564, 565, 26, 24, k_W_height)
/-- WatershedMap.water(III)I -/
def k_W_water : Nat → Option mj_I := fun pc =>
  bif Nat.blt pc 17 then (bif Nat.blt pc 7 then (bif Nat.blt pc 2 then (bif Nat.blt pc 1 then (bif Nat.beq pc 0 then some (.aload_n 0, 1, 0, 0, 0, mj_u) else none) else
     (bif Nat.beq pc 1 then some (.iload_n 1, 1, 1, 0, 0, mj_u) else none)) else
    (bif Nat.blt pc 3 then (bif Nat.beq pc 2 then some (.iload_n 2, 1, 2, 0, 0, mj_u) else none) else
     (bif Nat.blt pc 6 then (bif Nat.beq pc 3 then some (.invokevirtual 72, 3, 17, 0, 369, mj_u) else none) else
      (bif Nat.beq pc 6 then some (.iload_n 3, 1, 3, 0, 0, mj_u) else none)))) else
   (bif Nat.blt pc 12 then (bif Nat.blt pc 8 then (bif Nat.beq pc 7 then some (.iconst 0, 1, 0, 0, 0, .int 0) else none) else
     (bif Nat.blt pc 9 then (bif Nat.beq pc 8 then some (.iconst 4, 1, 0, 0, 0, .int 4) else none) else
      (bif Nat.beq pc 9 then some (.invokestatic 65, 3, 15, 0, 295, mj_u) else none))) else
    (bif Nat.blt pc 13 then (bif Nat.beq pc 12 then some (.aload_n 0, 1, 0, 0, 0, mj_u) else none) else
     (bif Nat.blt pc 16 then (bif Nat.beq pc 13 then some (.getfield 21, 3, 8, 1, 267, .null) else none) else
      (bif Nat.beq pc 16 then some (.aload_n 0, 1, 0, 0, 0, mj_u) else none))))) else
  (bif Nat.blt pc 31 then (bif Nat.blt pc 24 then (bif Nat.blt pc 20 then (bif Nat.beq pc 17 then some (.getfield 57, 3, 8, 7, 273, .int 0) else none) else
     (bif Nat.blt pc 23 then (bif Nat.beq pc 20 then some (.invokevirtual 100, 3, 29, 0, 435, mj_u) else none) else
      (bif Nat.beq pc 23 then some (.aload_n 0, 1, 0, 0, 0, mj_u) else none))) else
    (bif Nat.blt pc 27 then (bif Nat.beq pc 24 then some (.getfield 21, 3, 8, 1, 267, .null) else none) else
     (bif Nat.blt pc 28 then (bif Nat.beq pc 27 then some (.aload_n 0, 1, 0, 0, 0, mj_u) else none) else
      (bif Nat.beq pc 28 then some (.getfield 10, 3, 8, 0, 266, .null) else none)))) else
   (bif Nat.blt pc 36 then (bif Nat.blt pc 32 then (bif Nat.beq pc 31 then some (.iload_n 1, 1, 1, 0, 0, mj_u) else none) else
     (bif Nat.blt pc 33 then (bif Nat.beq pc 32 then some (.iload_n 2, 1, 2, 0, 0, mj_u) else none) else
      (bif Nat.beq pc 33 then some (.invokevirtual 75, 3, 12, 0, 390, mj_u) else none))) else
    (bif Nat.blt pc 37 then (bif Nat.beq pc 36 then some (.iload_n 3, 1, 3, 0, 0, mj_u) else none) else
     (bif Nat.blt pc 40 then (bif Nat.beq pc 37 then some (.invokevirtual 125, 3, 62, 0, 571, mj_u) else none) else
      (bif Nat.beq pc 40 then some (.ireturn, 1, 0, 0, 0, mj_u) else none)))))
def m_W_water : mj_M := (61, prog_1_method_13_code, 4, (Option.some Jvm.ClassFile.FieldType.int), 8, 3, 570, 568, 569, 26, 41, k_W_water)
/-- WatershedMap$Streams.told(II)I -/
def k_Streams_told : Nat → Option mj_I := fun pc =>
  bif Nat.blt pc 47 then (bif Nat.blt pc 38 then (bif Nat.blt pc 33 then (bif Nat.blt pc 1 then (bif Nat.beq pc 0 then some (.iload_n 2, 1, 2, 0, 0, mj_u) else none) else
     (bif Nat.blt pc 32 then (bif Nat.beq pc 1 then some (.tableswitch 59 0 3 #[31, 38, 45, 52], 31, 60, 0, 0, mj_u) else none) else
      (bif Nat.beq pc 32 then some (.aload_n 0, 1, 0, 0, 0, mj_u) else none))) else
    (bif Nat.blt pc 36 then (bif Nat.beq pc 33 then some (.getfield 9, 3, 6, 1, 98, .null) else none) else
     (bif Nat.blt pc 37 then (bif Nat.beq pc 36 then some (.iload_n 1, 1, 1, 0, 0, mj_u) else none) else
      (bif Nat.beq pc 37 then some (.iaload, 1, 0, 0, 0, mj_u) else none)))) else
   (bif Nat.blt pc 43 then (bif Nat.blt pc 39 then (bif Nat.beq pc 38 then some (.ireturn, 1, 0, 0, 0, mj_u) else none) else
     (bif Nat.blt pc 40 then (bif Nat.beq pc 39 then some (.aload_n 0, 1, 0, 0, 0, mj_u) else none) else
      (bif Nat.beq pc 40 then some (.getfield 18, 3, 6, 3, 101, .null) else none))) else
    (bif Nat.blt pc 45 then (bif Nat.blt pc 44 then (bif Nat.beq pc 43 then some (.iload_n 1, 1, 1, 0, 0, mj_u) else none) else
      (bif Nat.beq pc 44 then some (.iaload, 1, 0, 0, 0, mj_u) else none)) else
     (bif Nat.blt pc 46 then (bif Nat.beq pc 45 then some (.ireturn, 1, 0, 0, 0, mj_u) else none) else
      (bif Nat.beq pc 46 then some (.aload_n 0, 1, 0, 0, 0, mj_u) else none))))) else
  (bif Nat.blt pc 58 then (bif Nat.blt pc 52 then (bif Nat.blt pc 50 then (bif Nat.beq pc 47 then some (.getfield 21, 3, 6, 4, 103, .null) else none) else
     (bif Nat.blt pc 51 then (bif Nat.beq pc 50 then some (.iload_n 1, 1, 1, 0, 0, mj_u) else none) else
      (bif Nat.beq pc 51 then some (.iaload, 1, 0, 0, 0, mj_u) else none))) else
    (bif Nat.blt pc 54 then (bif Nat.blt pc 53 then (bif Nat.beq pc 52 then some (.ireturn, 1, 0, 0, 0, mj_u) else none) else
      (bif Nat.beq pc 53 then some (.aload_n 0, 1, 0, 0, 0, mj_u) else none)) else
     (bif Nat.blt pc 57 then (bif Nat.beq pc 54 then some (.getfield 27, 3, 6, 6, 106, .null) else none) else
      (bif Nat.beq pc 57 then some (.iload_n 1, 1, 1, 0, 0, mj_u) else none)))) else
   (bif Nat.blt pc 61 then (bif Nat.blt pc 59 then (bif Nat.beq pc 58 then some (.iaload, 1, 0, 0, 0, mj_u) else none) else
     (bif Nat.blt pc 60 then (bif Nat.beq pc 59 then some (.ireturn, 1, 0, 0, 0, mj_u) else none) else
      (bif Nat.beq pc 60 then some (.aload_n 0, 1, 0, 0, 0, mj_u) else none))) else
    (bif Nat.blt pc 65 then (bif Nat.blt pc 64 then (bif Nat.beq pc 61 then some (.getfield 24, 3, 6, 5, 105, .null) else none) else
      (bif Nat.beq pc 64 then some (.iload_n 1, 1, 1, 0, 0, mj_u) else none)) else
     (bif Nat.blt pc 66 then (bif Nat.beq pc 65 then some (.iaload, 1, 0, 0, 0, mj_u) else none) else
      (bif Nat.beq pc 66 then some (.ireturn, 1, 0, 0, 0, mj_u) else none)))))
def m_Streams_told : mj_M := (62, prog_8_method_8_code, 3, (Option.some Jvm.ClassFile.FieldType.int), 6, 2, 574, 572, 573, 28, 67, k_Streams_told)
/-- WatershedMap.basins()I -/
def k_W_basins : Nat → Option mj_I := fun pc =>
  bif Nat.blt pc 15 then (bif Nat.blt pc 5 then (bif Nat.blt pc 1 then (bif Nat.beq pc 0 then some (.aload_n 0, 1, 0, 0, 0, mj_u) else none) else
    (bif Nat.blt pc 4 then (bif Nat.beq pc 1 then some (.getfield 21, 3, 8, 1, 267, .null) else none) else
     (bif Nat.beq pc 4 then some (.aload_n 0, 1, 0, 0, 0, mj_u) else none))) else
   (bif Nat.blt pc 11 then (bif Nat.blt pc 8 then (bif Nat.beq pc 5 then some (.getfield 57, 3, 8, 7, 273, .int 0) else none) else
     (bif Nat.beq pc 8 then some (.invokevirtual 100, 3, 29, 0, 435, mj_u) else none)) else
    (bif Nat.blt pc 12 then (bif Nat.beq pc 11 then some (.aload_n 0, 1, 0, 0, 0, mj_u) else none) else
     (bif Nat.beq pc 12 then some (.getfield 21, 3, 8, 1, 267, .null) else none)))) else
  (bif Nat.blt pc 24 then (bif Nat.blt pc 20 then (bif Nat.blt pc 17 then (bif Nat.beq pc 15 then some (.bipush 8, 2, 0, 0, 0, .int 8) else none) else
     (bif Nat.beq pc 17 then some (.invokevirtual 127, 3, 64, 0, 579, mj_u) else none)) else
    (bif Nat.blt pc 21 then (bif Nat.beq pc 20 then some (.aload_n 0, 1, 0, 0, 0, mj_u) else none) else
     (bif Nat.beq pc 21 then some (.getfield 21, 3, 8, 1, 267, .null) else none))) else
   (bif Nat.blt pc 29 then (bif Nat.blt pc 26 then (bif Nat.beq pc 24 then some (.bipush 9, 2, 0, 0, 0, .int 9) else none) else
     (bif Nat.beq pc 26 then some (.invokevirtual 127, 3, 64, 0, 579, mj_u) else none)) else
    (bif Nat.blt pc 30 then (bif Nat.beq pc 29 then some (.iadd, 1, 0, 0, 0, mj_u) else none) else
     (bif Nat.beq pc 30 then some (.ireturn, 1, 0, 0, 0, mj_u) else none))))
def m_W_basins : mj_M := (63, prog_1_method_14_code, 1, (Option.some Jvm.ClassFile.FieldType.int), 8, 0, 578, 576, 577, 26, 31, k_W_basins)
/-- WatershedMap$Streams.count(I)I -/
def k_Streams_count : Nat → Option mj_I := fun pc =>
  bif Nat.blt pc 20 then (bif Nat.blt pc 6 then (bif Nat.blt pc 3 then (bif Nat.blt pc 1 then (bif Nat.beq pc 0 then some (.iconst 0, 1, 0, 0, 0, .int 0) else none) else
     (bif Nat.blt pc 2 then (bif Nat.beq pc 1 then some (.istore_n 2, 1, 2, 0, 0, mj_u) else none) else
      (bif Nat.beq pc 2 then some (.iconst 0, 1, 0, 0, 0, .int 0) else none))) else
    (bif Nat.blt pc 4 then (bif Nat.beq pc 3 then some (.istore_n 3, 1, 3, 0, 0, mj_u) else none) else
     (bif Nat.blt pc 5 then (bif Nat.beq pc 4 then some (.iload_n 3, 1, 3, 0, 0, mj_u) else none) else
      (bif Nat.beq pc 5 then some (.aload_n 0, 1, 0, 0, 0, mj_u) else none)))) else
   (bif Nat.blt pc 15 then (bif Nat.blt pc 9 then (bif Nat.beq pc 6 then some (.getfield 43, 3, 6, 0, 97, .null) else none) else
     (bif Nat.blt pc 12 then (bif Nat.beq pc 9 then some (.getfield 47, 3, 4, 5, 72, .int 0) else none) else
      (bif Nat.beq pc 12 then some (.if_icmp .ge 27, 3, 39, 0, 0, mj_u) else none))) else
    (bif Nat.blt pc 16 then (bif Nat.beq pc 15 then some (.iload_n 2, 1, 2, 0, 0, mj_u) else none) else
     (bif Nat.blt pc 17 then (bif Nat.beq pc 16 then some (.aload_n 0, 1, 0, 0, 0, mj_u) else none) else
      (bif Nat.beq pc 17 then some (.getfield 9, 3, 6, 1, 98, .null) else none))))) else
  (bif Nat.blt pc 30 then (bif Nat.blt pc 23 then (bif Nat.blt pc 21 then (bif Nat.beq pc 20 then some (.iload_n 3, 1, 3, 0, 0, mj_u) else none) else
     (bif Nat.blt pc 22 then (bif Nat.beq pc 21 then some (.iaload, 1, 0, 0, 0, mj_u) else none) else
      (bif Nat.beq pc 22 then some (.iload_n 1, 1, 1, 0, 0, mj_u) else none))) else
    (bif Nat.blt pc 26 then (bif Nat.beq pc 23 then some (.if_icmp .ne 7, 3, 30, 0, 0, mj_u) else none) else
     (bif Nat.blt pc 27 then (bif Nat.beq pc 26 then some (.iconst 1, 1, 0, 0, 0, .int 1) else none) else
      (bif Nat.beq pc 27 then some (.goto 4, 3, 31, 0, 0, mj_u) else none)))) else
   (bif Nat.blt pc 33 then (bif Nat.blt pc 31 then (bif Nat.beq pc 30 then some (.iconst 0, 1, 0, 0, 0, .int 0) else none) else
     (bif Nat.blt pc 32 then (bif Nat.beq pc 31 then some (.iadd, 1, 0, 0, 0, mj_u) else none) else
      (bif Nat.beq pc 32 then some (.istore_n 2, 1, 2, 0, 0, mj_u) else none))) else
    (bif Nat.blt pc 39 then (bif Nat.blt pc 36 then (bif Nat.beq pc 33 then some (.iinc 3 1, 3, 3, 0, 0, .int 1) else none) else
      (bif Nat.beq pc 36 then some (.goto (-32), 3, 4, 0, 0, mj_u) else none)) else
     (bif Nat.blt pc 40 then (bif Nat.beq pc 39 then some (.iload_n 2, 1, 2, 0, 0, mj_u) else none) else
      (bif Nat.beq pc 40 then some (.ireturn, 1, 0, 0, 0, mj_u) else none)))))
def m_Streams_count : mj_M := (64, prog_8_method_9_code, 4, (Option.some Jvm.ClassFile.FieldType.int), 6, 1, 582, 580, 581, 28, 41, k_Streams_count)
/-- WatershedMap.pits()I -/
def k_W_pits : Nat → Option mj_I := fun pc =>
  bif Nat.blt pc 11 then (bif Nat.blt pc 4 then (bif Nat.blt pc 1 then (bif Nat.beq pc 0 then some (.aload_n 0, 1, 0, 0, 0, mj_u) else none) else
    (bif Nat.beq pc 1 then some (.getfield 21, 3, 8, 1, 267, .null) else none)) else
   (bif Nat.blt pc 5 then (bif Nat.beq pc 4 then some (.aload_n 0, 1, 0, 0, 0, mj_u) else none) else
    (bif Nat.blt pc 8 then (bif Nat.beq pc 5 then some (.getfield 57, 3, 8, 7, 273, .int 0) else none) else
     (bif Nat.beq pc 8 then some (.invokevirtual 100, 3, 29, 0, 435, mj_u) else none)))) else
  (bif Nat.blt pc 15 then (bif Nat.blt pc 12 then (bif Nat.beq pc 11 then some (.aload_n 0, 1, 0, 0, 0, mj_u) else none) else
    (bif Nat.beq pc 12 then some (.getfield 21, 3, 8, 1, 267, .null) else none)) else
   (bif Nat.blt pc 17 then (bif Nat.beq pc 15 then some (.bipush 9, 2, 0, 0, 0, .int 9) else none) else
    (bif Nat.blt pc 20 then (bif Nat.beq pc 17 then some (.invokevirtual 127, 3, 64, 0, 579, mj_u) else none) else
     (bif Nat.beq pc 20 then some (.ireturn, 1, 0, 0, 0, mj_u) else none))))
def m_W_pits : mj_M := (65, prog_1_method_15_code, 1, (Option.some Jvm.ClassFile.FieldType.int), 8, 0, 586, 584, 585, 26, 21, k_W_pits)
/-- WatershedMap.mostRank()I -/
def k_W_mostRank : Nat → Option mj_I := fun pc =>
  bif Nat.blt pc 12 then (bif Nat.blt pc 5 then (bif Nat.blt pc 1 then (bif Nat.beq pc 0 then some (.aload_n 0, 1, 0, 0, 0, mj_u) else none) else
    (bif Nat.blt pc 4 then (bif Nat.beq pc 1 then some (.getfield 21, 3, 8, 1, 267, .null) else none) else
     (bif Nat.beq pc 4 then some (.aload_n 0, 1, 0, 0, 0, mj_u) else none))) else
   (bif Nat.blt pc 8 then (bif Nat.beq pc 5 then some (.getfield 57, 3, 8, 7, 273, .int 0) else none) else
    (bif Nat.blt pc 11 then (bif Nat.beq pc 8 then some (.invokevirtual 100, 3, 29, 0, 435, mj_u) else none) else
     (bif Nat.beq pc 11 then some (.aload_n 0, 1, 0, 0, 0, mj_u) else none)))) else
  (bif Nat.blt pc 19 then (bif Nat.blt pc 15 then (bif Nat.beq pc 12 then some (.getfield 21, 3, 8, 1, 267, .null) else none) else
    (bif Nat.blt pc 16 then (bif Nat.beq pc 15 then some (.aload_n 0, 1, 0, 0, 0, mj_u) else none) else
     (bif Nat.beq pc 16 then some (.getfield 21, 3, 8, 1, 267, .null) else none))) else
   (bif Nat.blt pc 22 then (bif Nat.beq pc 19 then some (.getfield 130, 3, 6, 6, 107, .null) else none) else
    (bif Nat.blt pc 25 then (bif Nat.beq pc 22 then some (.invokevirtual 133, 3, 67, 0, 591, mj_u) else none) else
     (bif Nat.beq pc 25 then some (.ireturn, 1, 0, 0, 0, mj_u) else none))))
def m_W_mostRank : mj_M := (66, prog_1_method_16_code, 1, (Option.some Jvm.ClassFile.FieldType.int), 8, 0, 590, 588, 589, 26, 26, k_W_mostRank)
/-- WatershedMap$Streams.greatestOf([I)I -/
def k_Streams_greatestOf : Nat → Option mj_I := fun pc =>
  bif Nat.blt pc 15 then (bif Nat.blt pc 4 then (bif Nat.blt pc 2 then (bif Nat.blt pc 1 then (bif Nat.beq pc 0 then some (.iconst 0, 1, 0, 0, 0, .int 0) else none) else
     (bif Nat.beq pc 1 then some (.istore_n 2, 1, 2, 0, 0, mj_u) else none)) else
    (bif Nat.blt pc 3 then (bif Nat.beq pc 2 then some (.iconst 0, 1, 0, 0, 0, .int 0) else none) else
     (bif Nat.beq pc 3 then some (.istore_n 3, 1, 3, 0, 0, mj_u) else none))) else
   (bif Nat.blt pc 6 then (bif Nat.blt pc 5 then (bif Nat.beq pc 4 then some (.iload_n 3, 1, 3, 0, 0, mj_u) else none) else
     (bif Nat.beq pc 5 then some (.aload_n 0, 1, 0, 0, 0, mj_u) else none)) else
    (bif Nat.blt pc 9 then (bif Nat.beq pc 6 then some (.getfield 43, 3, 6, 0, 97, .null) else none) else
     (bif Nat.blt pc 12 then (bif Nat.beq pc 9 then some (.getfield 47, 3, 4, 5, 72, .int 0) else none) else
      (bif Nat.beq pc 12 then some (.if_icmp .ge 17, 3, 29, 0, 0, mj_u) else none))))) else
  (bif Nat.blt pc 22 then (bif Nat.blt pc 17 then (bif Nat.blt pc 16 then (bif Nat.beq pc 15 then some (.iload_n 2, 1, 2, 0, 0, mj_u) else none) else
     (bif Nat.beq pc 16 then some (.aload_n 1, 1, 1, 0, 0, mj_u) else none)) else
    (bif Nat.blt pc 18 then (bif Nat.beq pc 17 then some (.iload_n 3, 1, 3, 0, 0, mj_u) else none) else
     (bif Nat.blt pc 19 then (bif Nat.beq pc 18 then some (.iaload, 1, 0, 0, 0, mj_u) else none) else
      (bif Nat.beq pc 19 then some (.invokestatic 93, 3, 22, 0, 464, mj_u) else none)))) else
   (bif Nat.blt pc 26 then (bif Nat.blt pc 23 then (bif Nat.beq pc 22 then some (.istore_n 2, 1, 2, 0, 0, mj_u) else none) else
     (bif Nat.beq pc 23 then some (.iinc 3 1, 3, 3, 0, 0, .int 1) else none)) else
    (bif Nat.blt pc 29 then (bif Nat.beq pc 26 then some (.goto (-22), 3, 4, 0, 0, mj_u) else none) else
     (bif Nat.blt pc 30 then (bif Nat.beq pc 29 then some (.iload_n 2, 1, 2, 0, 0, mj_u) else none) else
      (bif Nat.beq pc 30 then some (.ireturn, 1, 0, 0, 0, mj_u) else none)))))
def m_Streams_greatestOf : mj_M := (67, prog_8_method_10_code, 4, (Option.some Jvm.ClassFile.FieldType.int), 6, 1, 594, 592, 593, 28, 31, k_Streams_greatestOf)
/-- WatershedMap.level(II)I -/
def k_W_level : Nat → Option mj_I := fun pc =>
  bif Nat.blt pc 14 then (bif Nat.blt pc 6 then (bif Nat.blt pc 2 then (bif Nat.blt pc 1 then (bif Nat.beq pc 0 then some (.aload_n 0, 1, 0, 0, 0, mj_u) else none) else
     (bif Nat.beq pc 1 then some (.iload_n 1, 1, 1, 0, 0, mj_u) else none)) else
    (bif Nat.blt pc 3 then (bif Nat.beq pc 2 then some (.iload_n 2, 1, 2, 0, 0, mj_u) else none) else
     (bif Nat.beq pc 3 then some (.invokevirtual 72, 3, 17, 0, 369, mj_u) else none))) else
   (bif Nat.blt pc 10 then (bif Nat.blt pc 7 then (bif Nat.beq pc 6 then some (.aload_n 0, 1, 0, 0, 0, mj_u) else none) else
     (bif Nat.beq pc 7 then some (.getfield 28, 3, 8, 2, 268, .null) else none)) else
    (bif Nat.blt pc 13 then (bif Nat.beq pc 10 then some (.invokevirtual 108, 3, 42, 0, 487, mj_u) else none) else
     (bif Nat.beq pc 13 then some (.aload_n 0, 1, 0, 0, 0, mj_u) else none)))) else
  (bif Nat.blt pc 24 then (bif Nat.blt pc 20 then (bif Nat.blt pc 17 then (bif Nat.beq pc 14 then some (.getfield 28, 3, 8, 2, 268, .null) else none) else
     (bif Nat.beq pc 17 then some (.getfield 111, 3, 3, 1, 171, .null) else none)) else
    (bif Nat.blt pc 21 then (bif Nat.beq pc 20 then some (.aload_n 0, 1, 0, 0, 0, mj_u) else none) else
     (bif Nat.beq pc 21 then some (.getfield 10, 3, 8, 0, 266, .null) else none))) else
   (bif Nat.blt pc 26 then (bif Nat.blt pc 25 then (bif Nat.beq pc 24 then some (.iload_n 1, 1, 1, 0, 0, mj_u) else none) else
     (bif Nat.beq pc 25 then some (.iload_n 2, 1, 2, 0, 0, mj_u) else none)) else
    (bif Nat.blt pc 29 then (bif Nat.beq pc 26 then some (.invokevirtual 75, 3, 12, 0, 390, mj_u) else none) else
     (bif Nat.blt pc 30 then (bif Nat.beq pc 29 then some (.iaload, 1, 0, 0, 0, mj_u) else none) else
      (bif Nat.beq pc 30 then some (.ireturn, 1, 0, 0, 0, mj_u) else none)))))
def m_W_level : mj_M := (68, prog_1_method_18_code, 3, (Option.some Jvm.ClassFile.FieldType.int), 8, 2, 598, 596, 597, 26, 31, k_W_level)
/-- WatershedMap.lakes()I -/
def k_W_lakes : Nat → Option mj_I := fun pc =>
  bif Nat.blt pc 7 then (bif Nat.blt pc 1 then (bif Nat.beq pc 0 then some (.aload_n 0, 1, 0, 0, 0, mj_u) else none) else
   (bif Nat.blt pc 4 then (bif Nat.beq pc 1 then some (.getfield 28, 3, 8, 2, 268, .null) else none) else
    (bif Nat.beq pc 4 then some (.invokevirtual 108, 3, 42, 0, 487, mj_u) else none))) else
  (bif Nat.blt pc 11 then (bif Nat.blt pc 8 then (bif Nat.beq pc 7 then some (.aload_n 0, 1, 0, 0, 0, mj_u) else none) else
    (bif Nat.beq pc 8 then some (.getfield 28, 3, 8, 2, 268, .null) else none)) else
   (bif Nat.blt pc 14 then (bif Nat.beq pc 11 then some (.getfield 139, 3, 3, 4, 175, .int 0) else none) else
    (bif Nat.beq pc 14 then some (.ireturn, 1, 0, 0, 0, mj_u) else none)))
def m_W_lakes : mj_M := (69, prog_1_method_19_code, 1, (Option.some Jvm.ClassFile.FieldType.int), 8, 0, 602, 600, 601, 26, 15, k_W_lakes)
/-- WatershedMap.lake(III)I -/
def k_W_lake : Nat → Option mj_I := fun pc =>
  bif Nat.blt pc 24 then (bif Nat.blt pc 9 then (bif Nat.blt pc 3 then (bif Nat.blt pc 1 then (bif Nat.beq pc 0 then some (.aload_n 0, 1, 0, 0, 0, mj_u) else none) else
     (bif Nat.blt pc 2 then (bif Nat.beq pc 1 then some (.iload_n 1, 1, 1, 0, 0, mj_u) else none) else
      (bif Nat.beq pc 2 then some (.iload_n 2, 1, 2, 0, 0, mj_u) else none))) else
    (bif Nat.blt pc 7 then (bif Nat.blt pc 6 then (bif Nat.beq pc 3 then some (.invokevirtual 72, 3, 17, 0, 369, mj_u) else none) else
      (bif Nat.beq pc 6 then some (.iload_n 3, 1, 3, 0, 0, mj_u) else none)) else
     (bif Nat.blt pc 8 then (bif Nat.beq pc 7 then some (.iconst 0, 1, 0, 0, 0, .int 0) else none) else
      (bif Nat.beq pc 8 then some (.iconst 1, 1, 0, 0, 0, .int 1) else none)))) else
   (bif Nat.blt pc 16 then (bif Nat.blt pc 12 then (bif Nat.beq pc 9 then some (.invokestatic 65, 3, 15, 0, 295, mj_u) else none) else
     (bif Nat.blt pc 13 then (bif Nat.beq pc 12 then some (.aload_n 0, 1, 0, 0, 0, mj_u) else none) else
      (bif Nat.beq pc 13 then some (.getfield 28, 3, 8, 2, 268, .null) else none))) else
    (bif Nat.blt pc 20 then (bif Nat.blt pc 19 then (bif Nat.beq pc 16 then some (.invokevirtual 108, 3, 42, 0, 487, mj_u) else none) else
      (bif Nat.beq pc 19 then some (.aload_n 0, 1, 0, 0, 0, mj_u) else none)) else
     (bif Nat.blt pc 23 then (bif Nat.beq pc 20 then some (.getfield 10, 3, 8, 0, 266, .null) else none) else
      (bif Nat.beq pc 23 then some (.iload_n 1, 1, 1, 0, 0, mj_u) else none))))) else
  (bif Nat.blt pc 38 then (bif Nat.blt pc 30 then (bif Nat.blt pc 25 then (bif Nat.beq pc 24 then some (.iload_n 2, 1, 2, 0, 0, mj_u) else none) else
     (bif Nat.blt pc 28 then (bif Nat.beq pc 25 then some (.invokevirtual 75, 3, 12, 0, 390, mj_u) else none) else
      (bif Nat.beq pc 28 then some (.istore 4, 2, 4, 0, 0, mj_u) else none))) else
    (bif Nat.blt pc 34 then (bif Nat.blt pc 31 then (bif Nat.beq pc 30 then some (.iload_n 3, 1, 3, 0, 0, mj_u) else none) else
      (bif Nat.beq pc 31 then some (.ifCond .ne 15, 3, 46, 0, 0, mj_u) else none)) else
     (bif Nat.blt pc 35 then (bif Nat.beq pc 34 then some (.aload_n 0, 1, 0, 0, 0, mj_u) else none) else
      (bif Nat.beq pc 35 then some (.getfield 28, 3, 8, 2, 268, .null) else none)))) else
   (bif Nat.blt pc 47 then (bif Nat.blt pc 43 then (bif Nat.blt pc 40 then (bif Nat.beq pc 38 then some (.iload 4, 2, 4, 0, 0, mj_u) else none) else
      (bif Nat.beq pc 40 then some (.invokevirtual 142, 3, 71, 0, 607, mj_u) else none)) else
     (bif Nat.blt pc 46 then (bif Nat.beq pc 43 then some (.goto 12, 3, 55, 0, 0, mj_u) else none) else
      (bif Nat.beq pc 46 then some (.aload_n 0, 1, 0, 0, 0, mj_u) else none))) else
    (bif Nat.blt pc 52 then (bif Nat.blt pc 50 then (bif Nat.beq pc 47 then some (.getfield 28, 3, 8, 2, 268, .null) else none) else
      (bif Nat.beq pc 50 then some (.iload 4, 2, 4, 0, 0, mj_u) else none)) else
     (bif Nat.blt pc 55 then (bif Nat.beq pc 52 then some (.invokevirtual 145, 3, 73, 0, 616, mj_u) else none) else
      (bif Nat.beq pc 55 then some (.ireturn, 1, 0, 0, 0, mj_u) else none)))))
def m_W_lake : mj_M := (70, prog_1_method_20_code, 5, (Option.some Jvm.ClassFile.FieldType.int), 8, 3, 606, 604, 605, 26, 56, k_W_lake)
/-- WatershedMap$Hollows.sizeOfLake(I)I -/
def k_Hollows_sizeOfLake : Nat → Option mj_I := fun pc =>
  bif Nat.blt pc 18 then (bif Nat.blt pc 6 then (bif Nat.blt pc 3 then (bif Nat.blt pc 1 then (bif Nat.beq pc 0 then some (.iconst 0, 1, 0, 0, 0, .int 0) else none) else
     (bif Nat.blt pc 2 then (bif Nat.beq pc 1 then some (.istore_n 2, 1, 2, 0, 0, mj_u) else none) else
      (bif Nat.beq pc 2 then some (.iconst 0, 1, 0, 0, 0, .int 0) else none))) else
    (bif Nat.blt pc 4 then (bif Nat.beq pc 3 then some (.istore_n 3, 1, 3, 0, 0, mj_u) else none) else
     (bif Nat.blt pc 5 then (bif Nat.beq pc 4 then some (.iload_n 3, 1, 3, 0, 0, mj_u) else none) else
      (bif Nat.beq pc 5 then some (.aload_n 0, 1, 0, 0, 0, mj_u) else none)))) else
   (bif Nat.blt pc 15 then (bif Nat.blt pc 9 then (bif Nat.beq pc 6 then some (.getfield 29, 3, 3, 0, 169, .null) else none) else
     (bif Nat.blt pc 12 then (bif Nat.beq pc 9 then some (.getfield 43, 3, 4, 5, 74, .int 0) else none) else
      (bif Nat.beq pc 12 then some (.if_icmp .ge 26, 3, 38, 0, 0, mj_u) else none))) else
    (bif Nat.blt pc 16 then (bif Nat.beq pc 15 then some (.iload_n 2, 1, 2, 0, 0, mj_u) else none) else
     (bif Nat.blt pc 17 then (bif Nat.beq pc 16 then some (.aload_n 0, 1, 0, 0, 0, mj_u) else none) else
      (bif Nat.beq pc 17 then some (.iload_n 1, 1, 1, 0, 0, mj_u) else none))))) else
  (bif Nat.blt pc 30 then (bif Nat.blt pc 25 then (bif Nat.blt pc 19 then (bif Nat.beq pc 18 then some (.iload_n 3, 1, 3, 0, 0, mj_u) else none) else
     (bif Nat.blt pc 22 then (bif Nat.beq pc 19 then some (.invokevirtual 96, 3, 72, 0, 611, mj_u) else none) else
      (bif Nat.beq pc 22 then some (.ifCond .eq 7, 3, 29, 0, 0, mj_u) else none))) else
    (bif Nat.blt pc 26 then (bif Nat.beq pc 25 then some (.iconst 1, 1, 0, 0, 0, .int 1) else none) else
     (bif Nat.blt pc 29 then (bif Nat.beq pc 26 then some (.goto 4, 3, 30, 0, 0, mj_u) else none) else
      (bif Nat.beq pc 29 then some (.iconst 0, 1, 0, 0, 0, .int 0) else none)))) else
   (bif Nat.blt pc 35 then (bif Nat.blt pc 31 then (bif Nat.beq pc 30 then some (.iadd, 1, 0, 0, 0, mj_u) else none) else
     (bif Nat.blt pc 32 then (bif Nat.beq pc 31 then some (.istore_n 2, 1, 2, 0, 0, mj_u) else none) else
      (bif Nat.beq pc 32 then some (.iinc 3 1, 3, 3, 0, 0, .int 1) else none))) else
    (bif Nat.blt pc 38 then (bif Nat.beq pc 35 then some (.goto (-31), 3, 4, 0, 0, mj_u) else none) else
     (bif Nat.blt pc 39 then (bif Nat.beq pc 38 then some (.iload_n 2, 1, 2, 0, 0, mj_u) else none) else
      (bif Nat.beq pc 39 then some (.ireturn, 1, 0, 0, 0, mj_u) else none)))))
def m_Hollows_sizeOfLake : mj_M := (71, prog_5_method_9_code, 4, (Option.some Jvm.ClassFile.FieldType.int), 3, 1, 610, 608, 609, 29, 40, k_Hollows_sizeOfLake)
/-- WatershedMap$Hollows.inOneLake(II)Z -/
def k_Hollows_inOneLake : Nat → Option mj_I := fun pc =>
  bif Nat.blt pc 20 then (bif Nat.blt pc 9 then (bif Nat.blt pc 2 then (bif Nat.blt pc 1 then (bif Nat.beq pc 0 then some (.aload_n 0, 1, 0, 0, 0, mj_u) else none) else
     (bif Nat.beq pc 1 then some (.iload_n 1, 1, 1, 0, 0, mj_u) else none)) else
    (bif Nat.blt pc 5 then (bif Nat.beq pc 2 then some (.invokevirtual 48, 3, 49, 0, 518, mj_u) else none) else
     (bif Nat.blt pc 8 then (bif Nat.beq pc 5 then some (.ifCond .eq 34, 3, 39, 0, 0, mj_u) else none) else
      (bif Nat.beq pc 8 then some (.aload_n 0, 1, 0, 0, 0, mj_u) else none)))) else
   (bif Nat.blt pc 13 then (bif Nat.blt pc 10 then (bif Nat.beq pc 9 then some (.iload_n 2, 1, 2, 0, 0, mj_u) else none) else
     (bif Nat.beq pc 10 then some (.invokevirtual 48, 3, 49, 0, 518, mj_u) else none)) else
    (bif Nat.blt pc 16 then (bif Nat.beq pc 13 then some (.ifCond .eq 26, 3, 39, 0, 0, mj_u) else none) else
     (bif Nat.blt pc 17 then (bif Nat.beq pc 16 then some (.aload_n 0, 1, 0, 0, 0, mj_u) else none) else
      (bif Nat.beq pc 17 then some (.getfield 25, 3, 3, 3, 173, .null) else none))))) else
  (bif Nat.blt pc 29 then (bif Nat.blt pc 24 then (bif Nat.blt pc 21 then (bif Nat.beq pc 20 then some (.iload_n 1, 1, 1, 0, 0, mj_u) else none) else
     (bif Nat.beq pc 21 then some (.invokevirtual 93, 3, 53, 0, 615, mj_u) else none)) else
    (bif Nat.blt pc 25 then (bif Nat.beq pc 24 then some (.aload_n 0, 1, 0, 0, 0, mj_u) else none) else
     (bif Nat.blt pc 28 then (bif Nat.beq pc 25 then some (.getfield 25, 3, 3, 3, 173, .null) else none) else
      (bif Nat.beq pc 28 then some (.iload_n 2, 1, 2, 0, 0, mj_u) else none)))) else
   (bif Nat.blt pc 36 then (bif Nat.blt pc 32 then (bif Nat.beq pc 29 then some (.invokevirtual 93, 3, 53, 0, 615, mj_u) else none) else
     (bif Nat.blt pc 35 then (bif Nat.beq pc 32 then some (.if_icmp .ne 7, 3, 39, 0, 0, mj_u) else none) else
      (bif Nat.beq pc 35 then some (.iconst 1, 1, 0, 0, 0, .int 1) else none))) else
    (bif Nat.blt pc 39 then (bif Nat.beq pc 36 then some (.goto 4, 3, 40, 0, 0, mj_u) else none) else
     (bif Nat.blt pc 40 then (bif Nat.beq pc 39 then some (.iconst 0, 1, 0, 0, 0, .int 0) else none) else
      (bif Nat.beq pc 40 then some (.ireturn, 1, 0, 0, 0, mj_u) else none)))))
def m_Hollows_inOneLake : mj_M := (72, prog_5_method_8_code, 3, (Option.some Jvm.ClassFile.FieldType.boolean), 3, 2, 614, 613, 15, 29, 41, k_Hollows_inOneLake)
/-- WatershedMap$Hollows.contentOfLake(I)I -/
def k_Hollows_contentOfLake : Nat → Option mj_I := fun pc =>
  bif Nat.blt pc 19 then (bif Nat.blt pc 6 then (bif Nat.blt pc 3 then (bif Nat.blt pc 1 then (bif Nat.beq pc 0 then some (.iconst 0, 1, 0, 0, 0, .int 0) else none) else
     (bif Nat.blt pc 2 then (bif Nat.beq pc 1 then some (.istore_n 2, 1, 2, 0, 0, mj_u) else none) else
      (bif Nat.beq pc 2 then some (.iconst 0, 1, 0, 0, 0, .int 0) else none))) else
    (bif Nat.blt pc 4 then (bif Nat.beq pc 3 then some (.istore_n 3, 1, 3, 0, 0, mj_u) else none) else
     (bif Nat.blt pc 5 then (bif Nat.beq pc 4 then some (.iload_n 3, 1, 3, 0, 0, mj_u) else none) else
      (bif Nat.beq pc 5 then some (.aload_n 0, 1, 0, 0, 0, mj_u) else none)))) else
   (bif Nat.blt pc 15 then (bif Nat.blt pc 9 then (bif Nat.beq pc 6 then some (.getfield 29, 3, 3, 0, 169, .null) else none) else
     (bif Nat.blt pc 12 then (bif Nat.beq pc 9 then some (.getfield 43, 3, 4, 5, 74, .int 0) else none) else
      (bif Nat.beq pc 12 then some (.if_icmp .ge 30, 3, 42, 0, 0, mj_u) else none))) else
    (bif Nat.blt pc 17 then (bif Nat.blt pc 16 then (bif Nat.beq pc 15 then some (.iload_n 2, 1, 2, 0, 0, mj_u) else none) else
      (bif Nat.beq pc 16 then some (.aload_n 0, 1, 0, 0, 0, mj_u) else none)) else
     (bif Nat.blt pc 18 then (bif Nat.beq pc 17 then some (.iload_n 1, 1, 1, 0, 0, mj_u) else none) else
      (bif Nat.beq pc 18 then some (.iload_n 3, 1, 3, 0, 0, mj_u) else none))))) else
  (bif Nat.blt pc 33 then (bif Nat.blt pc 26 then (bif Nat.blt pc 22 then (bif Nat.beq pc 19 then some (.invokevirtual 96, 3, 72, 0, 611, mj_u) else none) else
     (bif Nat.blt pc 25 then (bif Nat.beq pc 22 then some (.ifCond .eq 11, 3, 33, 0, 0, mj_u) else none) else
      (bif Nat.beq pc 25 then some (.aload_n 0, 1, 0, 0, 0, mj_u) else none))) else
    (bif Nat.blt pc 27 then (bif Nat.beq pc 26 then some (.iload_n 3, 1, 3, 0, 0, mj_u) else none) else
     (bif Nat.blt pc 30 then (bif Nat.beq pc 27 then some (.invokevirtual 89, 3, 50, 0, 522, mj_u) else none) else
      (bif Nat.beq pc 30 then some (.goto 4, 3, 34, 0, 0, mj_u) else none)))) else
   (bif Nat.blt pc 36 then (bif Nat.blt pc 34 then (bif Nat.beq pc 33 then some (.iconst 0, 1, 0, 0, 0, .int 0) else none) else
     (bif Nat.blt pc 35 then (bif Nat.beq pc 34 then some (.iadd, 1, 0, 0, 0, mj_u) else none) else
      (bif Nat.beq pc 35 then some (.istore_n 2, 1, 2, 0, 0, mj_u) else none))) else
    (bif Nat.blt pc 42 then (bif Nat.blt pc 39 then (bif Nat.beq pc 36 then some (.iinc 3 1, 3, 3, 0, 0, .int 1) else none) else
      (bif Nat.beq pc 39 then some (.goto (-35), 3, 4, 0, 0, mj_u) else none)) else
     (bif Nat.blt pc 43 then (bif Nat.beq pc 42 then some (.iload_n 2, 1, 2, 0, 0, mj_u) else none) else
      (bif Nat.beq pc 43 then some (.ireturn, 1, 0, 0, 0, mj_u) else none)))))
def m_Hollows_contentOfLake : mj_M := (73, prog_5_method_10_code, 4, (Option.some Jvm.ClassFile.FieldType.int), 3, 1, 619, 617, 618, 29, 44, k_Hollows_contentOfLake)
/-- WatershedMap.volume()I -/
def k_W_volume : Nat → Option mj_I := fun pc =>
  bif Nat.blt pc 7 then (bif Nat.blt pc 1 then (bif Nat.beq pc 0 then some (.aload_n 0, 1, 0, 0, 0, mj_u) else none) else
   (bif Nat.blt pc 4 then (bif Nat.beq pc 1 then some (.getfield 28, 3, 8, 2, 268, .null) else none) else
    (bif Nat.beq pc 4 then some (.invokevirtual 108, 3, 42, 0, 487, mj_u) else none))) else
  (bif Nat.blt pc 11 then (bif Nat.blt pc 8 then (bif Nat.beq pc 7 then some (.aload_n 0, 1, 0, 0, 0, mj_u) else none) else
    (bif Nat.beq pc 8 then some (.getfield 28, 3, 8, 2, 268, .null) else none)) else
   (bif Nat.blt pc 14 then (bif Nat.beq pc 11 then some (.invokevirtual 148, 3, 75, 0, 624, mj_u) else none) else
    (bif Nat.beq pc 14 then some (.ireturn, 1, 0, 0, 0, mj_u) else none)))
def m_W_volume : mj_M := (74, prog_1_method_21_code, 1, (Option.some Jvm.ClassFile.FieldType.int), 8, 0, 623, 621, 622, 26, 15, k_W_volume)
/-- WatershedMap$Hollows.content()I -/
def k_Hollows_content : Nat → Option mj_I := fun pc =>
  bif Nat.blt pc 15 then (bif Nat.blt pc 4 then (bif Nat.blt pc 2 then (bif Nat.blt pc 1 then (bif Nat.beq pc 0 then some (.iconst 0, 1, 0, 0, 0, .int 0) else none) else
     (bif Nat.beq pc 1 then some (.istore_n 1, 1, 1, 0, 0, mj_u) else none)) else
    (bif Nat.blt pc 3 then (bif Nat.beq pc 2 then some (.iconst 0, 1, 0, 0, 0, .int 0) else none) else
     (bif Nat.beq pc 3 then some (.istore_n 2, 1, 2, 0, 0, mj_u) else none))) else
   (bif Nat.blt pc 6 then (bif Nat.blt pc 5 then (bif Nat.beq pc 4 then some (.iload_n 2, 1, 2, 0, 0, mj_u) else none) else
     (bif Nat.beq pc 5 then some (.aload_n 0, 1, 0, 0, 0, mj_u) else none)) else
    (bif Nat.blt pc 9 then (bif Nat.beq pc 6 then some (.getfield 29, 3, 3, 0, 169, .null) else none) else
     (bif Nat.blt pc 12 then (bif Nat.beq pc 9 then some (.getfield 43, 3, 4, 5, 74, .int 0) else none) else
      (bif Nat.beq pc 12 then some (.if_icmp .ge 17, 3, 29, 0, 0, mj_u) else none))))) else
  (bif Nat.blt pc 22 then (bif Nat.blt pc 17 then (bif Nat.blt pc 16 then (bif Nat.beq pc 15 then some (.iload_n 1, 1, 1, 0, 0, mj_u) else none) else
     (bif Nat.beq pc 16 then some (.aload_n 0, 1, 0, 0, 0, mj_u) else none)) else
    (bif Nat.blt pc 18 then (bif Nat.beq pc 17 then some (.iload_n 2, 1, 2, 0, 0, mj_u) else none) else
     (bif Nat.blt pc 21 then (bif Nat.beq pc 18 then some (.invokevirtual 89, 3, 50, 0, 522, mj_u) else none) else
      (bif Nat.beq pc 21 then some (.iadd, 1, 0, 0, 0, mj_u) else none)))) else
   (bif Nat.blt pc 26 then (bif Nat.blt pc 23 then (bif Nat.beq pc 22 then some (.istore_n 1, 1, 1, 0, 0, mj_u) else none) else
     (bif Nat.beq pc 23 then some (.iinc 2 1, 3, 2, 0, 0, .int 1) else none)) else
    (bif Nat.blt pc 29 then (bif Nat.beq pc 26 then some (.goto (-22), 3, 4, 0, 0, mj_u) else none) else
     (bif Nat.blt pc 30 then (bif Nat.beq pc 29 then some (.iload_n 1, 1, 1, 0, 0, mj_u) else none) else
      (bif Nat.beq pc 30 then some (.ireturn, 1, 0, 0, 0, mj_u) else none)))))
def m_Hollows_content : mj_M := (75, prog_5_method_11_code, 3, (Option.some Jvm.ClassFile.FieldType.int), 3, 0, 627, 625, 626, 29, 31, k_Hollows_content)
/-- WatershedMap.contour(II)I -/
def k_W_contour : Nat → Option mj_I := fun pc =>
  bif Nat.blt pc 14 then (bif Nat.blt pc 8 then (bif Nat.blt pc 2 then (bif Nat.blt pc 1 then (bif Nat.beq pc 0 then some (.iload_n 1, 1, 1, 0, 0, mj_u) else none) else
     (bif Nat.beq pc 1 then some (.iconst 0, 1, 0, 0, 0, .int 0) else none)) else
    (bif Nat.blt pc 5 then (bif Nat.beq pc 2 then some (.sipush 999, 3, 0, 0, 0, .int 999) else none) else
     (bif Nat.beq pc 5 then some (.invokestatic 65, 3, 15, 0, 295, mj_u) else none))) else
   (bif Nat.blt pc 10 then (bif Nat.blt pc 9 then (bif Nat.beq pc 8 then some (.iload_n 2, 1, 2, 0, 0, mj_u) else none) else
     (bif Nat.beq pc 9 then some (.iconst 0, 1, 0, 0, 0, .int 0) else none)) else
    (bif Nat.blt pc 11 then (bif Nat.beq pc 10 then some (.iconst 2, 1, 0, 0, 0, .int 2) else none) else
     (bif Nat.beq pc 11 then some (.invokestatic 65, 3, 15, 0, 295, mj_u) else none)))) else
  (bif Nat.blt pc 22 then (bif Nat.blt pc 18 then (bif Nat.blt pc 15 then (bif Nat.beq pc 14 then some (.aload_n 0, 1, 0, 0, 0, mj_u) else none) else
     (bif Nat.beq pc 15 then some (.getfield 35, 3, 8, 3, 269, .null) else none)) else
    (bif Nat.blt pc 19 then (bif Nat.beq pc 18 then some (.iload_n 1, 1, 1, 0, 0, mj_u) else none) else
     (bif Nat.beq pc 19 then some (.invokevirtual 151, 3, 77, 0, 632, mj_u) else none))) else
   (bif Nat.blt pc 26 then (bif Nat.blt pc 23 then (bif Nat.beq pc 22 then some (.aload_n 0, 1, 0, 0, 0, mj_u) else none) else
     (bif Nat.beq pc 23 then some (.getfield 35, 3, 8, 3, 269, .null) else none)) else
    (bif Nat.blt pc 27 then (bif Nat.beq pc 26 then some (.iload_n 2, 1, 2, 0, 0, mj_u) else none) else
     (bif Nat.blt pc 30 then (bif Nat.beq pc 27 then some (.invokevirtual 154, 3, 84, 0, 662, mj_u) else none) else
      (bif Nat.beq pc 30 then some (.ireturn, 1, 0, 0, 0, mj_u) else none)))))
def m_W_contour : mj_M := (76, prog_1_method_22_code, 3, (Option.some Jvm.ClassFile.FieldType.int), 8, 2, 631, 629, 630, 26, 31, k_W_contour)
/-- WatershedMap$Contours.draw(I)V -/
def k_Contours_draw : Nat → Option mj_I := fun pc =>
  bif Nat.blt pc 47 then (bif Nat.blt pc 25 then (bif Nat.blt pc 12 then (bif Nat.blt pc 7 then (bif Nat.blt pc 1 then (bif Nat.beq pc 0 then some (.aload_n 0, 1, 0, 0, 0, mj_u) else none) else
      (bif Nat.blt pc 4 then (bif Nat.beq pc 1 then some (.getfield 18, 3, 0, 2, 197, .null) else none) else
       (bif Nat.beq pc 4 then some (.invokevirtual 26, 3, 48, 0, 636, mj_u) else none))) else
     (bif Nat.blt pc 8 then (bif Nat.beq pc 7 then some (.aload_n 0, 1, 0, 0, 0, mj_u) else none) else
      (bif Nat.blt pc 11 then (bif Nat.beq pc 8 then some (.getfield 9, 3, 0, 1, 196, .null) else none) else
       (bif Nat.beq pc 11 then some (.iconst (-1), 1, 0, 0, 0, .int (-1)) else none)))) else
    (bif Nat.blt pc 17 then (bif Nat.blt pc 15 then (bif Nat.beq pc 12 then some (.invokestatic 29, 3, 10, 0, 637, mj_u) else none) else
      (bif Nat.blt pc 16 then (bif Nat.beq pc 15 then some (.aload_n 0, 1, 0, 0, 0, mj_u) else none) else
       (bif Nat.beq pc 16 then some (.iconst 0, 1, 0, 0, 0, .int 0) else none))) else
     (bif Nat.blt pc 21 then (bif Nat.blt pc 20 then (bif Nat.beq pc 17 then some (.putfield 35, 3, 0, 3, 198, .int 0) else none) else
       (bif Nat.beq pc 20 then some (.aload_n 0, 1, 0, 0, 0, mj_u) else none)) else
      (bif Nat.blt pc 22 then (bif Nat.beq pc 21 then some (.iconst 0, 1, 0, 0, 0, .int 0) else none) else
       (bif Nat.beq pc 22 then some (.putfield 39, 3, 0, 4, 199, .int 0) else none))))) else
   (bif Nat.blt pc 34 then (bif Nat.blt pc 30 then (bif Nat.blt pc 26 then (bif Nat.beq pc 25 then some (.aload_n 0, 1, 0, 0, 0, mj_u) else none) else
      (bif Nat.blt pc 27 then (bif Nat.beq pc 26 then some (.iconst 0, 1, 0, 0, 0, .int 0) else none) else
       (bif Nat.beq pc 27 then some (.putfield 42, 3, 0, 5, 200, .int 0) else none))) else
     (bif Nat.blt pc 32 then (bif Nat.blt pc 31 then (bif Nat.beq pc 30 then some (.iconst 0, 1, 0, 0, 0, .int 0) else none) else
       (bif Nat.beq pc 31 then some (.istore_n 2, 1, 2, 0, 0, mj_u) else none)) else
      (bif Nat.blt pc 33 then (bif Nat.beq pc 32 then some (.iload_n 2, 1, 2, 0, 0, mj_u) else none) else
       (bif Nat.beq pc 33 then some (.aload_n 0, 1, 0, 0, 0, mj_u) else none)))) else
    (bif Nat.blt pc 41 then (bif Nat.blt pc 37 then (bif Nat.beq pc 34 then some (.getfield 22, 3, 0, 0, 195, .null) else none) else
      (bif Nat.blt pc 40 then (bif Nat.beq pc 37 then some (.getfield 45, 3, 4, 4, 70, .int 0) else none) else
       (bif Nat.beq pc 40 then some (.iconst 1, 1, 0, 0, 0, .int 1) else none))) else
     (bif Nat.blt pc 45 then (bif Nat.blt pc 42 then (bif Nat.beq pc 41 then some (.isub, 1, 0, 0, 0, mj_u) else none) else
       (bif Nat.beq pc 42 then some (.if_icmp .ge 55, 3, 97, 0, 0, mj_u) else none)) else
      (bif Nat.blt pc 46 then (bif Nat.beq pc 45 then some (.iconst 0, 1, 0, 0, 0, .int 0) else none) else
       (bif Nat.beq pc 46 then some (.istore_n 3, 1, 3, 0, 0, mj_u) else none)))))) else
  (bif Nat.blt pc 70 then (bif Nat.blt pc 57 then (bif Nat.blt pc 52 then (bif Nat.blt pc 48 then (bif Nat.beq pc 47 then some (.iload_n 3, 1, 3, 0, 0, mj_u) else none) else
      (bif Nat.blt pc 49 then (bif Nat.beq pc 48 then some (.aload_n 0, 1, 0, 0, 0, mj_u) else none) else
       (bif Nat.beq pc 49 then some (.getfield 22, 3, 0, 0, 195, .null) else none))) else
     (bif Nat.blt pc 55 then (bif Nat.beq pc 52 then some (.getfield 50, 3, 4, 3, 66, .int 0) else none) else
      (bif Nat.blt pc 56 then (bif Nat.beq pc 55 then some (.iconst 1, 1, 0, 0, 0, .int 1) else none) else
       (bif Nat.beq pc 56 then some (.isub, 1, 0, 0, 0, mj_u) else none)))) else
    (bif Nat.blt pc 62 then (bif Nat.blt pc 60 then (bif Nat.beq pc 57 then some (.if_icmp .ge 34, 3, 91, 0, 0, mj_u) else none) else
      (bif Nat.blt pc 61 then (bif Nat.beq pc 60 then some (.aload_n 0, 1, 0, 0, 0, mj_u) else none) else
       (bif Nat.beq pc 61 then some (.aload_n 0, 1, 0, 0, 0, mj_u) else none))) else
     (bif Nat.blt pc 66 then (bif Nat.blt pc 65 then (bif Nat.beq pc 62 then some (.getfield 22, 3, 0, 0, 195, .null) else none) else
       (bif Nat.beq pc 65 then some (.iload_n 3, 1, 3, 0, 0, mj_u) else none)) else
      (bif Nat.blt pc 67 then (bif Nat.beq pc 66 then some (.iload_n 2, 1, 2, 0, 0, mj_u) else none) else
       (bif Nat.beq pc 67 then some (.invokevirtual 53, 3, 12, 0, 638, mj_u) else none))))) else
   (bif Nat.blt pc 81 then (bif Nat.blt pc 75 then (bif Nat.blt pc 71 then (bif Nat.beq pc 70 then some (.aload_n 0, 1, 0, 0, 0, mj_u) else none) else
      (bif Nat.blt pc 74 then (bif Nat.beq pc 71 then some (.getfield 22, 3, 0, 0, 195, .null) else none) else
       (bif Nat.beq pc 74 then some (.iload_n 3, 1, 3, 0, 0, mj_u) else none))) else
     (bif Nat.blt pc 77 then (bif Nat.blt pc 76 then (bif Nat.beq pc 75 then some (.iload_n 2, 1, 2, 0, 0, mj_u) else none) else
       (bif Nat.beq pc 76 then some (.iconst 1, 1, 0, 0, 0, .int 1) else none)) else
      (bif Nat.blt pc 78 then (bif Nat.beq pc 77 then some (.iadd, 1, 0, 0, 0, mj_u) else none) else
       (bif Nat.beq pc 78 then some (.invokevirtual 53, 3, 12, 0, 638, mj_u) else none)))) else
    (bif Nat.blt pc 88 then (bif Nat.blt pc 82 then (bif Nat.beq pc 81 then some (.iload_n 1, 1, 1, 0, 0, mj_u) else none) else
      (bif Nat.blt pc 85 then (bif Nat.beq pc 82 then some (.invokevirtual 57, 3, 78, 0, 639, mj_u) else none) else
       (bif Nat.beq pc 85 then some (.iinc 3 1, 3, 3, 0, 0, .int 1) else none))) else
     (bif Nat.blt pc 94 then (bif Nat.blt pc 91 then (bif Nat.beq pc 88 then some (.goto (-41), 3, 47, 0, 0, mj_u) else none) else
       (bif Nat.beq pc 91 then some (.iinc 2 1, 3, 2, 0, 0, .int 1) else none)) else
      (bif Nat.blt pc 97 then (bif Nat.beq pc 94 then some (.goto (-62), 3, 32, 0, 0, mj_u) else none) else
       (bif Nat.beq pc 97 then some (.return_, 1, 0, 0, 0, mj_u) else none))))))
def m_Contours_draw : mj_M := (77, prog_2_method_2_code, 4, (Option.none : Option Jvm.ClassFile.FieldType), 0, 1, 635, 633, 634, 32, 98, k_Contours_draw)
/-- WatershedMap$Contours.drawSquare(III)V -/
def k_Contours_drawSquare : Nat → Option mj_I := fun pc =>
  bif Nat.blt pc 135 then (bif Nat.blt pc 63 then (bif Nat.blt pc 31 then (bif Nat.blt pc 17 then (bif Nat.blt pc 8 then (bif Nat.blt pc 4 then (bif Nat.blt pc 1 then (bif Nat.beq pc 0 then some (.aload_n 0, 1, 0, 0, 0, mj_u) else none) else
        (bif Nat.beq pc 1 then some (.getfield 22, 3, 0, 0, 195, .null) else none)) else
       (bif Nat.blt pc 7 then (bif Nat.beq pc 4 then some (.getfield 61, 3, 4, 0, 59, .null) else none) else
        (bif Nat.beq pc 7 then some (.iload_n 1, 1, 1, 0, 0, mj_u) else none))) else
      (bif Nat.blt pc 10 then (bif Nat.blt pc 9 then (bif Nat.beq pc 8 then some (.iaload, 1, 0, 0, 0, mj_u) else none) else
        (bif Nat.beq pc 9 then some (.iload_n 3, 1, 3, 0, 0, mj_u) else none)) else
       (bif Nat.blt pc 13 then (bif Nat.beq pc 10 then some (.if_icmp .le 7, 3, 17, 0, 0, mj_u) else none) else
        (bif Nat.blt pc 14 then (bif Nat.beq pc 13 then some (.iconst 1, 1, 0, 0, 0, .int 1) else none) else
         (bif Nat.beq pc 14 then some (.goto 4, 3, 18, 0, 0, mj_u) else none))))) else
     (bif Nat.blt pc 24 then (bif Nat.blt pc 20 then (bif Nat.blt pc 18 then (bif Nat.beq pc 17 then some (.iconst 0, 1, 0, 0, 0, .int 0) else none) else
        (bif Nat.beq pc 18 then some (.istore 4, 2, 4, 0, 0, mj_u) else none)) else
       (bif Nat.blt pc 21 then (bif Nat.beq pc 20 then some (.aload_n 0, 1, 0, 0, 0, mj_u) else none) else
        (bif Nat.beq pc 21 then some (.getfield 22, 3, 0, 0, 195, .null) else none))) else
      (bif Nat.blt pc 28 then (bif Nat.blt pc 27 then (bif Nat.beq pc 24 then some (.getfield 61, 3, 4, 0, 59, .null) else none) else
        (bif Nat.beq pc 27 then some (.iload_n 1, 1, 1, 0, 0, mj_u) else none)) else
       (bif Nat.blt pc 29 then (bif Nat.beq pc 28 then some (.iconst 1, 1, 0, 0, 0, .int 1) else none) else
        (bif Nat.blt pc 30 then (bif Nat.beq pc 29 then some (.iadd, 1, 0, 0, 0, mj_u) else none) else
         (bif Nat.beq pc 30 then some (.iaload, 1, 0, 0, 0, mj_u) else none)))))) else
    (bif Nat.blt pc 49 then (bif Nat.blt pc 39 then (bif Nat.blt pc 35 then (bif Nat.blt pc 32 then (bif Nat.beq pc 31 then some (.iload_n 3, 1, 3, 0, 0, mj_u) else none) else
        (bif Nat.beq pc 32 then some (.if_icmp .le 7, 3, 39, 0, 0, mj_u) else none)) else
       (bif Nat.blt pc 36 then (bif Nat.beq pc 35 then some (.iconst 1, 1, 0, 0, 0, .int 1) else none) else
        (bif Nat.beq pc 36 then some (.goto 4, 3, 40, 0, 0, mj_u) else none))) else
      (bif Nat.blt pc 42 then (bif Nat.blt pc 40 then (bif Nat.beq pc 39 then some (.iconst 0, 1, 0, 0, 0, .int 0) else none) else
        (bif Nat.beq pc 40 then some (.istore 5, 2, 5, 0, 0, mj_u) else none)) else
       (bif Nat.blt pc 43 then (bif Nat.beq pc 42 then some (.aload_n 0, 1, 0, 0, 0, mj_u) else none) else
        (bif Nat.blt pc 46 then (bif Nat.beq pc 43 then some (.getfield 22, 3, 0, 0, 195, .null) else none) else
         (bif Nat.beq pc 46 then some (.getfield 61, 3, 4, 0, 59, .null) else none))))) else
     (bif Nat.blt pc 55 then (bif Nat.blt pc 51 then (bif Nat.blt pc 50 then (bif Nat.beq pc 49 then some (.iload_n 2, 1, 2, 0, 0, mj_u) else none) else
        (bif Nat.beq pc 50 then some (.iaload, 1, 0, 0, 0, mj_u) else none)) else
       (bif Nat.blt pc 52 then (bif Nat.beq pc 51 then some (.iload_n 3, 1, 3, 0, 0, mj_u) else none) else
        (bif Nat.beq pc 52 then some (.if_icmp .le 7, 3, 59, 0, 0, mj_u) else none))) else
      (bif Nat.blt pc 59 then (bif Nat.blt pc 56 then (bif Nat.beq pc 55 then some (.iconst 1, 1, 0, 0, 0, .int 1) else none) else
        (bif Nat.beq pc 56 then some (.goto 4, 3, 60, 0, 0, mj_u) else none)) else
       (bif Nat.blt pc 60 then (bif Nat.beq pc 59 then some (.iconst 0, 1, 0, 0, 0, .int 0) else none) else
        (bif Nat.blt pc 62 then (bif Nat.beq pc 60 then some (.istore 6, 2, 6, 0, 0, mj_u) else none) else
         (bif Nat.beq pc 62 then some (.aload_n 0, 1, 0, 0, 0, mj_u) else none))))))) else
   (bif Nat.blt pc 98 then (bif Nat.blt pc 78 then (bif Nat.blt pc 71 then (bif Nat.blt pc 69 then (bif Nat.blt pc 66 then (bif Nat.beq pc 63 then some (.getfield 22, 3, 0, 0, 195, .null) else none) else
        (bif Nat.beq pc 66 then some (.getfield 61, 3, 4, 0, 59, .null) else none)) else
       (bif Nat.blt pc 70 then (bif Nat.beq pc 69 then some (.iload_n 2, 1, 2, 0, 0, mj_u) else none) else
        (bif Nat.beq pc 70 then some (.iconst 1, 1, 0, 0, 0, .int 1) else none))) else
      (bif Nat.blt pc 73 then (bif Nat.blt pc 72 then (bif Nat.beq pc 71 then some (.iadd, 1, 0, 0, 0, mj_u) else none) else
        (bif Nat.beq pc 72 then some (.iaload, 1, 0, 0, 0, mj_u) else none)) else
       (bif Nat.blt pc 74 then (bif Nat.beq pc 73 then some (.iload_n 3, 1, 3, 0, 0, mj_u) else none) else
        (bif Nat.blt pc 77 then (bif Nat.beq pc 74 then some (.if_icmp .le 7, 3, 81, 0, 0, mj_u) else none) else
         (bif Nat.beq pc 77 then some (.iconst 1, 1, 0, 0, 0, .int 1) else none))))) else
     (bif Nat.blt pc 86 then (bif Nat.blt pc 82 then (bif Nat.blt pc 81 then (bif Nat.beq pc 78 then some (.goto 4, 3, 82, 0, 0, mj_u) else none) else
        (bif Nat.beq pc 81 then some (.iconst 0, 1, 0, 0, 0, .int 0) else none)) else
       (bif Nat.blt pc 84 then (bif Nat.beq pc 82 then some (.istore 7, 2, 7, 0, 0, mj_u) else none) else
        (bif Nat.beq pc 84 then some (.iload 4, 2, 4, 0, 0, mj_u) else none))) else
      (bif Nat.blt pc 91 then (bif Nat.blt pc 88 then (bif Nat.beq pc 86 then some (.iload 5, 2, 5, 0, 0, mj_u) else none) else
        (bif Nat.beq pc 88 then some (.if_icmp .eq 10, 3, 98, 0, 0, mj_u) else none)) else
       (bif Nat.blt pc 92 then (bif Nat.beq pc 91 then some (.iload_n 1, 1, 1, 0, 0, mj_u) else none) else
        (bif Nat.blt pc 95 then (bif Nat.beq pc 92 then some (.invokestatic 64, 3, 79, 0, 643, mj_u) else none) else
         (bif Nat.beq pc 95 then some (.goto 4, 3, 99, 0, 0, mj_u) else none)))))) else
    (bif Nat.blt pc 114 then (bif Nat.blt pc 105 then (bif Nat.blt pc 101 then (bif Nat.blt pc 99 then (bif Nat.beq pc 98 then some (.iconst (-1), 1, 0, 0, 0, .int (-1)) else none) else
        (bif Nat.beq pc 99 then some (.istore 8, 2, 8, 0, 0, mj_u) else none)) else
       (bif Nat.blt pc 103 then (bif Nat.beq pc 101 then some (.iload 5, 2, 5, 0, 0, mj_u) else none) else
        (bif Nat.beq pc 103 then some (.iload 7, 2, 7, 0, 0, mj_u) else none))) else
      (bif Nat.blt pc 109 then (bif Nat.blt pc 108 then (bif Nat.beq pc 105 then some (.if_icmp .eq 12, 3, 117, 0, 0, mj_u) else none) else
        (bif Nat.beq pc 108 then some (.iload_n 1, 1, 1, 0, 0, mj_u) else none)) else
       (bif Nat.blt pc 110 then (bif Nat.beq pc 109 then some (.iconst 1, 1, 0, 0, 0, .int 1) else none) else
        (bif Nat.blt pc 111 then (bif Nat.beq pc 110 then some (.iadd, 1, 0, 0, 0, mj_u) else none) else
         (bif Nat.beq pc 111 then some (.invokestatic 68, 3, 80, 0, 646, mj_u) else none))))) else
     (bif Nat.blt pc 124 then (bif Nat.blt pc 118 then (bif Nat.blt pc 117 then (bif Nat.beq pc 114 then some (.goto 4, 3, 118, 0, 0, mj_u) else none) else
        (bif Nat.beq pc 117 then some (.iconst (-1), 1, 0, 0, 0, .int (-1)) else none)) else
       (bif Nat.blt pc 120 then (bif Nat.beq pc 118 then some (.istore 9, 2, 9, 0, 0, mj_u) else none) else
        (bif Nat.blt pc 122 then (bif Nat.beq pc 120 then some (.iload 6, 2, 6, 0, 0, mj_u) else none) else
         (bif Nat.beq pc 122 then some (.iload 7, 2, 7, 0, 0, mj_u) else none)))) else
      (bif Nat.blt pc 128 then (bif Nat.blt pc 127 then (bif Nat.beq pc 124 then some (.if_icmp .eq 10, 3, 134, 0, 0, mj_u) else none) else
        (bif Nat.beq pc 127 then some (.iload_n 2, 1, 2, 0, 0, mj_u) else none)) else
       (bif Nat.blt pc 131 then (bif Nat.beq pc 128 then some (.invokestatic 64, 3, 79, 0, 643, mj_u) else none) else
        (bif Nat.blt pc 134 then (bif Nat.beq pc 131 then some (.goto 4, 3, 135, 0, 0, mj_u) else none) else
         (bif Nat.beq pc 134 then some (.iconst (-1), 1, 0, 0, 0, .int (-1)) else none)))))))) else
  (bif Nat.blt pc 209 then (bif Nat.blt pc 175 then (bif Nat.blt pc 154 then (bif Nat.blt pc 144 then (bif Nat.blt pc 139 then (bif Nat.blt pc 137 then (bif Nat.beq pc 135 then some (.istore 10, 2, 10, 0, 0, mj_u) else none) else
        (bif Nat.beq pc 137 then some (.iload 4, 2, 4, 0, 0, mj_u) else none)) else
       (bif Nat.blt pc 141 then (bif Nat.beq pc 139 then some (.iload 6, 2, 6, 0, 0, mj_u) else none) else
        (bif Nat.beq pc 141 then some (.if_icmp .eq 10, 3, 151, 0, 0, mj_u) else none))) else
      (bif Nat.blt pc 148 then (bif Nat.blt pc 145 then (bif Nat.beq pc 144 then some (.iload_n 1, 1, 1, 0, 0, mj_u) else none) else
        (bif Nat.beq pc 145 then some (.invokestatic 68, 3, 80, 0, 646, mj_u) else none)) else
       (bif Nat.blt pc 151 then (bif Nat.beq pc 148 then some (.goto 4, 3, 152, 0, 0, mj_u) else none) else
        (bif Nat.blt pc 152 then (bif Nat.beq pc 151 then some (.iconst (-1), 1, 0, 0, 0, .int (-1)) else none) else
         (bif Nat.beq pc 152 then some (.istore 11, 2, 11, 0, 0, mj_u) else none))))) else
     (bif Nat.blt pc 163 then (bif Nat.blt pc 158 then (bif Nat.blt pc 156 then (bif Nat.beq pc 154 then some (.iload 4, 2, 4, 0, 0, mj_u) else none) else
        (bif Nat.beq pc 156 then some (.iload 7, 2, 7, 0, 0, mj_u) else none)) else
       (bif Nat.blt pc 161 then (bif Nat.beq pc 158 then some (.if_icmp .ne 79, 3, 237, 0, 0, mj_u) else none) else
        (bif Nat.beq pc 161 then some (.iload 5, 2, 5, 0, 0, mj_u) else none))) else
      (bif Nat.blt pc 168 then (bif Nat.blt pc 165 then (bif Nat.beq pc 163 then some (.iload 6, 2, 6, 0, 0, mj_u) else none) else
        (bif Nat.beq pc 165 then some (.if_icmp .ne 72, 3, 237, 0, 0, mj_u) else none)) else
       (bif Nat.blt pc 170 then (bif Nat.beq pc 168 then some (.iload 4, 2, 4, 0, 0, mj_u) else none) else
        (bif Nat.blt pc 172 then (bif Nat.beq pc 170 then some (.iload 5, 2, 5, 0, 0, mj_u) else none) else
         (bif Nat.beq pc 172 then some (.if_icmp .eq 65, 3, 237, 0, 0, mj_u) else none)))))) else
    (bif Nat.blt pc 188 then (bif Nat.blt pc 181 then (bif Nat.blt pc 177 then (bif Nat.blt pc 176 then (bif Nat.beq pc 175 then some (.aload_n 0, 1, 0, 0, 0, mj_u) else none) else
        (bif Nat.beq pc 176 then some (.iload_n 1, 1, 1, 0, 0, mj_u) else none)) else
       (bif Nat.blt pc 178 then (bif Nat.beq pc 177 then some (.iload_n 2, 1, 2, 0, 0, mj_u) else none) else
        (bif Nat.beq pc 178 then some (.invokevirtual 71, 3, 81, 0, 649, mj_u) else none))) else
      (bif Nat.blt pc 183 then (bif Nat.blt pc 182 then (bif Nat.beq pc 181 then some (.iconst 4, 1, 0, 0, 0, .int 4) else none) else
        (bif Nat.beq pc 182 then some (.iload_n 3, 1, 3, 0, 0, mj_u) else none)) else
       (bif Nat.blt pc 184 then (bif Nat.beq pc 183 then some (.imul, 1, 0, 0, 0, mj_u) else none) else
        (bif Nat.blt pc 187 then (bif Nat.beq pc 184 then some (.if_icmp .gt 7, 3, 191, 0, 0, mj_u) else none) else
         (bif Nat.beq pc 187 then some (.iconst 1, 1, 0, 0, 0, .int 1) else none))))) else
     (bif Nat.blt pc 197 then (bif Nat.blt pc 192 then (bif Nat.blt pc 191 then (bif Nat.beq pc 188 then some (.goto 4, 3, 192, 0, 0, mj_u) else none) else
        (bif Nat.beq pc 191 then some (.iconst 0, 1, 0, 0, 0, .int 0) else none)) else
       (bif Nat.blt pc 194 then (bif Nat.beq pc 192 then some (.istore 12, 2, 12, 0, 0, mj_u) else none) else
        (bif Nat.blt pc 195 then (bif Nat.beq pc 194 then some (.aload_n 0, 1, 0, 0, 0, mj_u) else none) else
         (bif Nat.beq pc 195 then some (.iload 8, 2, 8, 0, 0, mj_u) else none)))) else
      (bif Nat.blt pc 201 then (bif Nat.blt pc 199 then (bif Nat.beq pc 197 then some (.iload 12, 2, 12, 0, 0, mj_u) else none) else
        (bif Nat.beq pc 199 then some (.iload 4, 2, 4, 0, 0, mj_u) else none)) else
       (bif Nat.blt pc 204 then (bif Nat.beq pc 201 then some (.if_icmp .ne 8, 3, 209, 0, 0, mj_u) else none) else
        (bif Nat.blt pc 206 then (bif Nat.beq pc 204 then some (.iload 11, 2, 11, 0, 0, mj_u) else none) else
         (bif Nat.beq pc 206 then some (.goto 5, 3, 211, 0, 0, mj_u) else none))))))) else
   (bif Nat.blt pc 252 then (bif Nat.blt pc 229 then (bif Nat.blt pc 217 then (bif Nat.blt pc 214 then (bif Nat.blt pc 211 then (bif Nat.beq pc 209 then some (.iload 9, 2, 9, 0, 0, mj_u) else none) else
        (bif Nat.beq pc 211 then some (.invokevirtual 74, 3, 82, 0, 653, mj_u) else none)) else
       (bif Nat.blt pc 215 then (bif Nat.beq pc 214 then some (.aload_n 0, 1, 0, 0, 0, mj_u) else none) else
        (bif Nat.beq pc 215 then some (.iload 10, 2, 10, 0, 0, mj_u) else none))) else
      (bif Nat.blt pc 221 then (bif Nat.blt pc 219 then (bif Nat.beq pc 217 then some (.iload 12, 2, 12, 0, 0, mj_u) else none) else
        (bif Nat.beq pc 219 then some (.iload 4, 2, 4, 0, 0, mj_u) else none)) else
       (bif Nat.blt pc 224 then (bif Nat.beq pc 221 then some (.if_icmp .ne 8, 3, 229, 0, 0, mj_u) else none) else
        (bif Nat.blt pc 226 then (bif Nat.beq pc 224 then some (.iload 9, 2, 9, 0, 0, mj_u) else none) else
         (bif Nat.beq pc 226 then some (.goto 5, 3, 231, 0, 0, mj_u) else none))))) else
     (bif Nat.blt pc 239 then (bif Nat.blt pc 234 then (bif Nat.blt pc 231 then (bif Nat.beq pc 229 then some (.iload 11, 2, 11, 0, 0, mj_u) else none) else
        (bif Nat.beq pc 231 then some (.invokevirtual 74, 3, 82, 0, 653, mj_u) else none)) else
       (bif Nat.blt pc 237 then (bif Nat.beq pc 234 then some (.goto 59, 3, 293, 0, 0, mj_u) else none) else
        (bif Nat.beq pc 237 then some (.iload 8, 2, 8, 0, 0, mj_u) else none))) else
      (bif Nat.blt pc 244 then (bif Nat.blt pc 242 then (bif Nat.beq pc 239 then some (.ifCond .lt 8, 3, 247, 0, 0, mj_u) else none) else
        (bif Nat.beq pc 242 then some (.iload 8, 2, 8, 0, 0, mj_u) else none)) else
       (bif Nat.blt pc 247 then (bif Nat.beq pc 244 then some (.goto 15, 3, 259, 0, 0, mj_u) else none) else
        (bif Nat.blt pc 249 then (bif Nat.beq pc 247 then some (.iload 9, 2, 9, 0, 0, mj_u) else none) else
         (bif Nat.beq pc 249 then some (.ifCond .lt 8, 3, 257, 0, 0, mj_u) else none)))))) else
    (bif Nat.blt pc 273 then (bif Nat.blt pc 261 then (bif Nat.blt pc 257 then (bif Nat.blt pc 254 then (bif Nat.beq pc 252 then some (.iload 9, 2, 9, 0, 0, mj_u) else none) else
        (bif Nat.beq pc 254 then some (.goto 5, 3, 259, 0, 0, mj_u) else none)) else
       (bif Nat.blt pc 259 then (bif Nat.beq pc 257 then some (.iload 10, 2, 10, 0, 0, mj_u) else none) else
        (bif Nat.beq pc 259 then some (.istore 12, 2, 12, 0, 0, mj_u) else none))) else
      (bif Nat.blt pc 266 then (bif Nat.blt pc 263 then (bif Nat.beq pc 261 then some (.iload 11, 2, 11, 0, 0, mj_u) else none) else
        (bif Nat.beq pc 263 then some (.ifCond .lt 8, 3, 271, 0, 0, mj_u) else none)) else
       (bif Nat.blt pc 268 then (bif Nat.beq pc 266 then some (.iload 11, 2, 11, 0, 0, mj_u) else none) else
        (bif Nat.blt pc 271 then (bif Nat.beq pc 268 then some (.goto 15, 3, 283, 0, 0, mj_u) else none) else
         (bif Nat.beq pc 271 then some (.iload 10, 2, 10, 0, 0, mj_u) else none))))) else
     (bif Nat.blt pc 285 then (bif Nat.blt pc 278 then (bif Nat.blt pc 276 then (bif Nat.beq pc 273 then some (.ifCond .lt 8, 3, 281, 0, 0, mj_u) else none) else
        (bif Nat.beq pc 276 then some (.iload 10, 2, 10, 0, 0, mj_u) else none)) else
       (bif Nat.blt pc 281 then (bif Nat.beq pc 278 then some (.goto 5, 3, 283, 0, 0, mj_u) else none) else
        (bif Nat.blt pc 283 then (bif Nat.beq pc 281 then some (.iload 9, 2, 9, 0, 0, mj_u) else none) else
         (bif Nat.beq pc 283 then some (.istore 13, 2, 13, 0, 0, mj_u) else none)))) else
      (bif Nat.blt pc 288 then (bif Nat.blt pc 286 then (bif Nat.beq pc 285 then some (.aload_n 0, 1, 0, 0, 0, mj_u) else none) else
        (bif Nat.beq pc 286 then some (.iload 12, 2, 12, 0, 0, mj_u) else none)) else
       (bif Nat.blt pc 290 then (bif Nat.beq pc 288 then some (.iload 13, 2, 13, 0, 0, mj_u) else none) else
        (bif Nat.blt pc 293 then (bif Nat.beq pc 290 then some (.invokevirtual 74, 3, 82, 0, 653, mj_u) else none) else
         (bif Nat.beq pc 293 then some (.return_, 1, 0, 0, 0, mj_u) else none))))))))
def m_Contours_drawSquare : mj_M := (78, prog_2_method_3_code, 14, (Option.none : Option Jvm.ClassFile.FieldType), 0, 3, 642, 641, 16, 32, 294, k_Contours_drawSquare)
/-- WatershedMap$Contours.sideRightOf(I)I static -/
def k_Contours_sideRightOf : Nat → Option mj_I := fun pc =>
  bif Nat.blt pc 2 then (bif Nat.blt pc 1 then (bif Nat.beq pc 0 then some (.iconst 2, 1, 0, 0, 0, .int 2) else none) else
   (bif Nat.beq pc 1 then some (.iload_n 0, 1, 0, 0, 0, mj_u) else none)) else
  (bif Nat.blt pc 3 then (bif Nat.beq pc 2 then some (.imul, 1, 0, 0, 0, mj_u) else none) else
   (bif Nat.beq pc 3 then some (.ireturn, 1, 0, 0, 0, mj_u) else none))
def m_Contours_sideRightOf : mj_M := (79, prog_2_method_4_code, 1, (Option.some Jvm.ClassFile.FieldType.int), 0, 1, 645, 644, 0, 32, 4, k_Contours_sideRightOf)
/-- WatershedMap$Contours.sideBelow(I)I static -/
def k_Contours_sideBelow : Nat → Option mj_I := fun pc =>
  bif Nat.blt pc 3 then (bif Nat.blt pc 1 then (bif Nat.beq pc 0 then some (.iconst 2, 1, 0, 0, 0, .int 2) else none) else
   (bif Nat.blt pc 2 then (bif Nat.beq pc 1 then some (.iload_n 0, 1, 0, 0, 0, mj_u) else none) else
    (bif Nat.beq pc 2 then some (.imul, 1, 0, 0, 0, mj_u) else none))) else
  (bif Nat.blt pc 4 then (bif Nat.beq pc 3 then some (.iconst 1, 1, 0, 0, 0, .int 1) else none) else
   (bif Nat.blt pc 5 then (bif Nat.beq pc 4 then some (.iadd, 1, 0, 0, 0, mj_u) else none) else
    (bif Nat.beq pc 5 then some (.ireturn, 1, 0, 0, 0, mj_u) else none)))
def m_Contours_sideBelow : mj_M := (80, prog_2_method_5_code, 1, (Option.some Jvm.ClassFile.FieldType.int), 0, 1, 648, 647, 0, 32, 6, k_Contours_sideBelow)
/-- WatershedMap$Contours.sumOfSquare(II)I -/
def k_Contours_sumOfSquare : Nat → Option mj_I := fun pc =>
  bif Nat.blt pc 22 then (bif Nat.blt pc 13 then (bif Nat.blt pc 7 then (bif Nat.blt pc 1 then (bif Nat.beq pc 0 then some (.aload_n 0, 1, 0, 0, 0, mj_u) else none) else
     (bif Nat.blt pc 4 then (bif Nat.beq pc 1 then some (.getfield 22, 3, 0, 0, 195, .null) else none) else
      (bif Nat.beq pc 4 then some (.getfield 61, 3, 4, 0, 59, .null) else none))) else
    (bif Nat.blt pc 9 then (bif Nat.blt pc 8 then (bif Nat.beq pc 7 then some (.iload_n 1, 1, 1, 0, 0, mj_u) else none) else
      (bif Nat.beq pc 8 then some (.iaload, 1, 0, 0, 0, mj_u) else none)) else
     (bif Nat.blt pc 10 then (bif Nat.beq pc 9 then some (.aload_n 0, 1, 0, 0, 0, mj_u) else none) else
      (bif Nat.beq pc 10 then some (.getfield 22, 3, 0, 0, 195, .null) else none)))) else
   (bif Nat.blt pc 18 then (bif Nat.blt pc 16 then (bif Nat.beq pc 13 then some (.getfield 61, 3, 4, 0, 59, .null) else none) else
     (bif Nat.blt pc 17 then (bif Nat.beq pc 16 then some (.iload_n 1, 1, 1, 0, 0, mj_u) else none) else
      (bif Nat.beq pc 17 then some (.iconst 1, 1, 0, 0, 0, .int 1) else none))) else
    (bif Nat.blt pc 20 then (bif Nat.blt pc 19 then (bif Nat.beq pc 18 then some (.iadd, 1, 0, 0, 0, mj_u) else none) else
      (bif Nat.beq pc 19 then some (.iaload, 1, 0, 0, 0, mj_u) else none)) else
     (bif Nat.blt pc 21 then (bif Nat.beq pc 20 then some (.iadd, 1, 0, 0, 0, mj_u) else none) else
      (bif Nat.beq pc 21 then some (.aload_n 0, 1, 0, 0, 0, mj_u) else none))))) else
  (bif Nat.blt pc 35 then (bif Nat.blt pc 29 then (bif Nat.blt pc 25 then (bif Nat.beq pc 22 then some (.getfield 22, 3, 0, 0, 195, .null) else none) else
     (bif Nat.blt pc 28 then (bif Nat.beq pc 25 then some (.getfield 61, 3, 4, 0, 59, .null) else none) else
      (bif Nat.beq pc 28 then some (.iload_n 2, 1, 2, 0, 0, mj_u) else none))) else
    (bif Nat.blt pc 31 then (bif Nat.blt pc 30 then (bif Nat.beq pc 29 then some (.iaload, 1, 0, 0, 0, mj_u) else none) else
      (bif Nat.beq pc 30 then some (.iadd, 1, 0, 0, 0, mj_u) else none)) else
     (bif Nat.blt pc 32 then (bif Nat.beq pc 31 then some (.aload_n 0, 1, 0, 0, 0, mj_u) else none) else
      (bif Nat.beq pc 32 then some (.getfield 22, 3, 0, 0, 195, .null) else none)))) else
   (bif Nat.blt pc 40 then (bif Nat.blt pc 38 then (bif Nat.beq pc 35 then some (.getfield 61, 3, 4, 0, 59, .null) else none) else
     (bif Nat.blt pc 39 then (bif Nat.beq pc 38 then some (.iload_n 2, 1, 2, 0, 0, mj_u) else none) else
      (bif Nat.beq pc 39 then some (.iconst 1, 1, 0, 0, 0, .int 1) else none))) else
    (bif Nat.blt pc 42 then (bif Nat.blt pc 41 then (bif Nat.beq pc 40 then some (.iadd, 1, 0, 0, 0, mj_u) else none) else
      (bif Nat.beq pc 41 then some (.iaload, 1, 0, 0, 0, mj_u) else none)) else
     (bif Nat.blt pc 43 then (bif Nat.beq pc 42 then some (.iadd, 1, 0, 0, 0, mj_u) else none) else
      (bif Nat.beq pc 43 then some (.ireturn, 1, 0, 0, 0, mj_u) else none)))))
def m_Contours_sumOfSquare : mj_M := (81, prog_2_method_6_code, 3, (Option.some Jvm.ClassFile.FieldType.int), 0, 2, 652, 651, 17, 32, 44, k_Contours_sumOfSquare)
/-- WatershedMap$Contours.addPiece(II)V -/
def k_Contours_addPiece : Nat → Option mj_I := fun pc =>
  bif Nat.blt pc 24 then (bif Nat.blt pc 13 then (bif Nat.blt pc 5 then (bif Nat.blt pc 1 then (bif Nat.beq pc 0 then some (.iload_n 1, 1, 1, 0, 0, mj_u) else none) else
     (bif Nat.blt pc 4 then (bif Nat.beq pc 1 then some (.ifCond .lt 44, 3, 45, 0, 0, mj_u) else none) else
      (bif Nat.beq pc 4 then some (.iload_n 2, 1, 2, 0, 0, mj_u) else none))) else
    (bif Nat.blt pc 9 then (bif Nat.blt pc 8 then (bif Nat.beq pc 5 then some (.ifCond .lt 40, 3, 45, 0, 0, mj_u) else none) else
      (bif Nat.beq pc 8 then some (.aload_n 0, 1, 0, 0, 0, mj_u) else none)) else
     (bif Nat.blt pc 12 then (bif Nat.beq pc 9 then some (.getfield 35, 3, 0, 3, 198, .int 0) else none) else
      (bif Nat.beq pc 12 then some (.istore_n 3, 1, 3, 0, 0, mj_u) else none)))) else
   (bif Nat.blt pc 18 then (bif Nat.blt pc 14 then (bif Nat.beq pc 13 then some (.aload_n 0, 1, 0, 0, 0, mj_u) else none) else
     (bif Nat.blt pc 15 then (bif Nat.beq pc 14 then some (.dup, 1, 0, 0, 0, mj_u) else none) else
      (bif Nat.beq pc 15 then some (.getfield 35, 3, 0, 3, 198, .int 0) else none))) else
    (bif Nat.blt pc 20 then (bif Nat.blt pc 19 then (bif Nat.beq pc 18 then some (.iconst 1, 1, 0, 0, 0, .int 1) else none) else
      (bif Nat.beq pc 19 then some (.iadd, 1, 0, 0, 0, mj_u) else none)) else
     (bif Nat.blt pc 23 then (bif Nat.beq pc 20 then some (.putfield 35, 3, 0, 3, 198, .int 0) else none) else
      (bif Nat.beq pc 23 then some (.aload_n 0, 1, 0, 0, 0, mj_u) else none))))) else
  (bif Nat.blt pc 35 then (bif Nat.blt pc 29 then (bif Nat.blt pc 25 then (bif Nat.beq pc 24 then some (.dup, 1, 0, 0, 0, mj_u) else none) else
     (bif Nat.blt pc 28 then (bif Nat.beq pc 25 then some (.getfield 39, 3, 0, 4, 199, .int 0) else none) else
      (bif Nat.beq pc 28 then some (.iconst 1, 1, 0, 0, 0, .int 1) else none))) else
    (bif Nat.blt pc 33 then (bif Nat.blt pc 30 then (bif Nat.beq pc 29 then some (.iadd, 1, 0, 0, 0, mj_u) else none) else
      (bif Nat.beq pc 30 then some (.putfield 39, 3, 0, 4, 199, .int 0) else none)) else
     (bif Nat.blt pc 34 then (bif Nat.beq pc 33 then some (.aload_n 0, 1, 0, 0, 0, mj_u) else none) else
      (bif Nat.beq pc 34 then some (.iload_n 1, 1, 1, 0, 0, mj_u) else none)))) else
   (bif Nat.blt pc 40 then (bif Nat.blt pc 36 then (bif Nat.beq pc 35 then some (.iload_n 3, 1, 3, 0, 0, mj_u) else none) else
     (bif Nat.blt pc 39 then (bif Nat.beq pc 36 then some (.invokevirtual 78, 3, 83, 0, 657, mj_u) else none) else
      (bif Nat.beq pc 39 then some (.aload_n 0, 1, 0, 0, 0, mj_u) else none))) else
    (bif Nat.blt pc 42 then (bif Nat.blt pc 41 then (bif Nat.beq pc 40 then some (.iload_n 2, 1, 2, 0, 0, mj_u) else none) else
      (bif Nat.beq pc 41 then some (.iload_n 3, 1, 3, 0, 0, mj_u) else none)) else
     (bif Nat.blt pc 45 then (bif Nat.beq pc 42 then some (.invokevirtual 78, 3, 83, 0, 657, mj_u) else none) else
      (bif Nat.beq pc 45 then some (.return_, 1, 0, 0, 0, mj_u) else none)))))
def m_Contours_addPiece : mj_M := (82, prog_2_method_7_code, 4, (Option.none : Option Jvm.ClassFile.FieldType), 0, 2, 656, 655, 18, 32, 46, k_Contours_addPiece)
/-- WatershedMap$Contours.tie(II)V -/
def k_Contours_tie : Nat → Option mj_I := fun pc =>
  bif Nat.blt pc 24 then (bif Nat.blt pc 12 then (bif Nat.blt pc 6 then (bif Nat.blt pc 4 then (bif Nat.blt pc 1 then (bif Nat.beq pc 0 then some (.aload_n 0, 1, 0, 0, 0, mj_u) else none) else
      (bif Nat.beq pc 1 then some (.getfield 9, 3, 0, 1, 196, .null) else none)) else
     (bif Nat.blt pc 5 then (bif Nat.beq pc 4 then some (.iload_n 1, 1, 1, 0, 0, mj_u) else none) else
      (bif Nat.beq pc 5 then some (.iaload, 1, 0, 0, 0, mj_u) else none))) else
    (bif Nat.blt pc 8 then (bif Nat.blt pc 7 then (bif Nat.beq pc 6 then some (.istore_n 3, 1, 3, 0, 0, mj_u) else none) else
      (bif Nat.beq pc 7 then some (.aload_n 0, 1, 0, 0, 0, mj_u) else none)) else
     (bif Nat.blt pc 11 then (bif Nat.beq pc 8 then some (.getfield 9, 3, 0, 1, 196, .null) else none) else
      (bif Nat.beq pc 11 then some (.iload_n 1, 1, 1, 0, 0, mj_u) else none)))) else
   (bif Nat.blt pc 18 then (bif Nat.blt pc 14 then (bif Nat.blt pc 13 then (bif Nat.beq pc 12 then some (.iload_n 2, 1, 2, 0, 0, mj_u) else none) else
      (bif Nat.beq pc 13 then some (.iastore, 1, 0, 0, 0, mj_u) else none)) else
     (bif Nat.blt pc 15 then (bif Nat.beq pc 14 then some (.iload_n 3, 1, 3, 0, 0, mj_u) else none) else
      (bif Nat.beq pc 15 then some (.ifCond .lt 38, 3, 53, 0, 0, mj_u) else none))) else
    (bif Nat.blt pc 22 then (bif Nat.blt pc 19 then (bif Nat.beq pc 18 then some (.aload_n 0, 1, 0, 0, 0, mj_u) else none) else
      (bif Nat.beq pc 19 then some (.getfield 18, 3, 0, 2, 197, .null) else none)) else
     (bif Nat.blt pc 23 then (bif Nat.beq pc 22 then some (.iload_n 3, 1, 3, 0, 0, mj_u) else none) else
      (bif Nat.beq pc 23 then some (.iload_n 2, 1, 2, 0, 0, mj_u) else none))))) else
  (bif Nat.blt pc 40 then (bif Nat.blt pc 32 then (bif Nat.blt pc 30 then (bif Nat.blt pc 27 then (bif Nat.beq pc 24 then some (.invokevirtual 81, 3, 52, 0, 661, mj_u) else none) else
      (bif Nat.beq pc 27 then some (.ifCond .eq 16, 3, 43, 0, 0, mj_u) else none)) else
     (bif Nat.blt pc 31 then (bif Nat.beq pc 30 then some (.aload_n 0, 1, 0, 0, 0, mj_u) else none) else
      (bif Nat.beq pc 31 then some (.dup, 1, 0, 0, 0, mj_u) else none))) else
    (bif Nat.blt pc 36 then (bif Nat.blt pc 35 then (bif Nat.beq pc 32 then some (.getfield 39, 3, 0, 4, 199, .int 0) else none) else
      (bif Nat.beq pc 35 then some (.iconst 1, 1, 0, 0, 0, .int 1) else none)) else
     (bif Nat.blt pc 37 then (bif Nat.beq pc 36 then some (.isub, 1, 0, 0, 0, mj_u) else none) else
      (bif Nat.beq pc 37 then some (.putfield 39, 3, 0, 4, 199, .int 0) else none)))) else
   (bif Nat.blt pc 48 then (bif Nat.blt pc 44 then (bif Nat.blt pc 43 then (bif Nat.beq pc 40 then some (.goto 13, 3, 53, 0, 0, mj_u) else none) else
      (bif Nat.beq pc 43 then some (.aload_n 0, 1, 0, 0, 0, mj_u) else none)) else
     (bif Nat.blt pc 45 then (bif Nat.beq pc 44 then some (.dup, 1, 0, 0, 0, mj_u) else none) else
      (bif Nat.beq pc 45 then some (.getfield 42, 3, 0, 5, 200, .int 0) else none))) else
    (bif Nat.blt pc 50 then (bif Nat.blt pc 49 then (bif Nat.beq pc 48 then some (.iconst 1, 1, 0, 0, 0, .int 1) else none) else
      (bif Nat.beq pc 49 then some (.iadd, 1, 0, 0, 0, mj_u) else none)) else
     (bif Nat.blt pc 53 then (bif Nat.beq pc 50 then some (.putfield 42, 3, 0, 5, 200, .int 0) else none) else
      (bif Nat.beq pc 53 then some (.return_, 1, 0, 0, 0, mj_u) else none)))))
def m_Contours_tie : mj_M := (83, prog_2_method_8_code, 4, (Option.none : Option Jvm.ClassFile.FieldType), 0, 2, 660, 659, 19, 32, 54, k_Contours_tie)
/-- WatershedMap$Contours.told(I)I -/
def k_Contours_told : Nat → Option mj_I := fun pc =>
  bif Nat.blt pc 13 then (bif Nat.blt pc 5 then (bif Nat.blt pc 1 then (bif Nat.beq pc 0 then some (.iload_n 1, 1, 1, 0, 0, mj_u) else none) else
    (bif Nat.blt pc 4 then (bif Nat.beq pc 1 then some (.ifCond .ne 10, 3, 11, 0, 0, mj_u) else none) else
     (bif Nat.beq pc 4 then some (.aload_n 0, 1, 0, 0, 0, mj_u) else none))) else
   (bif Nat.blt pc 11 then (bif Nat.blt pc 8 then (bif Nat.beq pc 5 then some (.getfield 35, 3, 0, 3, 198, .int 0) else none) else
     (bif Nat.beq pc 8 then some (.goto 19, 3, 27, 0, 0, mj_u) else none)) else
    (bif Nat.blt pc 12 then (bif Nat.beq pc 11 then some (.iload_n 1, 1, 1, 0, 0, mj_u) else none) else
     (bif Nat.beq pc 12 then some (.iconst 1, 1, 0, 0, 0, .int 1) else none)))) else
  (bif Nat.blt pc 20 then (bif Nat.blt pc 16 then (bif Nat.beq pc 13 then some (.if_icmp .ne 10, 3, 23, 0, 0, mj_u) else none) else
    (bif Nat.blt pc 17 then (bif Nat.beq pc 16 then some (.aload_n 0, 1, 0, 0, 0, mj_u) else none) else
     (bif Nat.beq pc 17 then some (.getfield 39, 3, 0, 4, 199, .int 0) else none))) else
   (bif Nat.blt pc 24 then (bif Nat.blt pc 23 then (bif Nat.beq pc 20 then some (.goto 7, 3, 27, 0, 0, mj_u) else none) else
     (bif Nat.beq pc 23 then some (.aload_n 0, 1, 0, 0, 0, mj_u) else none)) else
    (bif Nat.blt pc 27 then (bif Nat.beq pc 24 then some (.getfield 42, 3, 0, 5, 200, .int 0) else none) else
     (bif Nat.beq pc 27 then some (.ireturn, 1, 0, 0, 0, mj_u) else none))))
def m_Contours_told : mj_M := (84, prog_2_method_9_code, 2, (Option.some Jvm.ClassFile.FieldType.int), 0, 1, 665, 663, 664, 32, 28, k_Contours_told)
/-- WatershedMap.sees(IIIII)Z -/
def k_W_sees : Nat → Option mj_I := fun pc =>
  bif Nat.blt pc 16 then (bif Nat.blt pc 7 then (bif Nat.blt pc 2 then (bif Nat.blt pc 1 then (bif Nat.beq pc 0 then some (.aload_n 0, 1, 0, 0, 0, mj_u) else none) else
     (bif Nat.beq pc 1 then some (.iload_n 1, 1, 1, 0, 0, mj_u) else none)) else
    (bif Nat.blt pc 3 then (bif Nat.beq pc 2 then some (.iload_n 2, 1, 2, 0, 0, mj_u) else none) else
     (bif Nat.blt pc 6 then (bif Nat.beq pc 3 then some (.invokevirtual 72, 3, 17, 0, 369, mj_u) else none) else
      (bif Nat.beq pc 6 then some (.aload_n 0, 1, 0, 0, 0, mj_u) else none)))) else
   (bif Nat.blt pc 11 then (bif Nat.blt pc 9 then (bif Nat.beq pc 7 then some (.iload 4, 2, 4, 0, 0, mj_u) else none) else
     (bif Nat.beq pc 9 then some (.iload 5, 2, 5, 0, 0, mj_u) else none)) else
    (bif Nat.blt pc 14 then (bif Nat.beq pc 11 then some (.invokevirtual 72, 3, 17, 0, 369, mj_u) else none) else
     (bif Nat.blt pc 15 then (bif Nat.beq pc 14 then some (.iload_n 3, 1, 3, 0, 0, mj_u) else none) else
      (bif Nat.beq pc 15 then some (.iconst 0, 1, 0, 0, 0, .int 0) else none))))) else
  (bif Nat.blt pc 27 then (bif Nat.blt pc 22 then (bif Nat.blt pc 19 then (bif Nat.beq pc 16 then some (.sipush 500, 3, 0, 0, 0, .int 500) else none) else
     (bif Nat.beq pc 19 then some (.invokestatic 65, 3, 15, 0, 295, mj_u) else none)) else
    (bif Nat.blt pc 23 then (bif Nat.beq pc 22 then some (.aload_n 0, 1, 0, 0, 0, mj_u) else none) else
     (bif Nat.blt pc 26 then (bif Nat.beq pc 23 then some (.getfield 42, 3, 8, 4, 270, .null) else none) else
      (bif Nat.beq pc 26 then some (.iload_n 1, 1, 1, 0, 0, mj_u) else none)))) else
   (bif Nat.blt pc 31 then (bif Nat.blt pc 28 then (bif Nat.beq pc 27 then some (.iload_n 2, 1, 2, 0, 0, mj_u) else none) else
     (bif Nat.blt pc 29 then (bif Nat.beq pc 28 then some (.iload_n 3, 1, 3, 0, 0, mj_u) else none) else
      (bif Nat.beq pc 29 then some (.iload 4, 2, 4, 0, 0, mj_u) else none))) else
    (bif Nat.blt pc 33 then (bif Nat.beq pc 31 then some (.iload 5, 2, 5, 0, 0, mj_u) else none) else
     (bif Nat.blt pc 36 then (bif Nat.beq pc 33 then some (.invokevirtual 155, 3, 86, 0, 670, mj_u) else none) else
      (bif Nat.beq pc 36 then some (.ireturn, 1, 0, 0, 0, mj_u) else none)))))
def m_W_sees : mj_M := (85, prog_1_method_23_code, 6, (Option.some Jvm.ClassFile.FieldType.boolean), 8, 5, 669, 667, 668, 26, 37, k_W_sees)
/-- WatershedMap$Sight.reaches(IIIII)Z -/
def k_Sight_reaches : Nat → Option mj_I := fun pc =>
  bif Nat.blt pc 67 then (bif Nat.blt pc 30 then (bif Nat.blt pc 15 then (bif Nat.blt pc 6 then (bif Nat.blt pc 2 then (bif Nat.blt pc 1 then (bif Nat.beq pc 0 then some (.iload_n 1, 1, 1, 0, 0, mj_u) else none) else
       (bif Nat.beq pc 1 then some (.iload_n 2, 1, 2, 0, 0, mj_u) else none)) else
      (bif Nat.blt pc 4 then (bif Nat.beq pc 2 then some (.iload 4, 2, 4, 0, 0, mj_u) else none) else
       (bif Nat.beq pc 4 then some (.iload 5, 2, 5, 0, 0, mj_u) else none))) else
     (bif Nat.blt pc 11 then (bif Nat.blt pc 9 then (bif Nat.beq pc 6 then some (.invokestatic 13, 3, 87, 0, 674, mj_u) else none) else
       (bif Nat.beq pc 9 then some (.istore 6, 2, 6, 0, 0, mj_u) else none)) else
      (bif Nat.blt pc 12 then (bif Nat.beq pc 11 then some (.aload_n 0, 1, 0, 0, 0, mj_u) else none) else
       (bif Nat.beq pc 12 then some (.getfield 7, 3, 5, 0, 220, .null) else none)))) else
    (bif Nat.blt pc 23 then (bif Nat.blt pc 19 then (bif Nat.blt pc 18 then (bif Nat.beq pc 15 then some (.getfield 19, 3, 4, 0, 58, .null) else none) else
       (bif Nat.beq pc 18 then some (.aload_n 0, 1, 0, 0, 0, mj_u) else none)) else
      (bif Nat.blt pc 22 then (bif Nat.beq pc 19 then some (.getfield 7, 3, 5, 0, 220, .null) else none) else
       (bif Nat.beq pc 22 then some (.iload_n 1, 1, 1, 0, 0, mj_u) else none))) else
     (bif Nat.blt pc 27 then (bif Nat.blt pc 24 then (bif Nat.beq pc 23 then some (.iload_n 2, 1, 2, 0, 0, mj_u) else none) else
       (bif Nat.beq pc 24 then some (.invokevirtual 23, 3, 12, 0, 677, mj_u) else none)) else
      (bif Nat.blt pc 28 then (bif Nat.beq pc 27 then some (.iaload, 1, 0, 0, 0, mj_u) else none) else
       (bif Nat.blt pc 29 then (bif Nat.beq pc 28 then some (.iload_n 3, 1, 3, 0, 0, mj_u) else none) else
        (bif Nat.beq pc 29 then some (.iadd, 1, 0, 0, 0, mj_u) else none)))))) else
   (bif Nat.blt pc 50 then (bif Nat.blt pc 39 then (bif Nat.blt pc 33 then (bif Nat.blt pc 32 then (bif Nat.beq pc 30 then some (.istore 7, 2, 7, 0, 0, mj_u) else none) else
       (bif Nat.beq pc 32 then some (.aload_n 0, 1, 0, 0, 0, mj_u) else none)) else
      (bif Nat.blt pc 36 then (bif Nat.beq pc 33 then some (.getfield 7, 3, 5, 0, 220, .null) else none) else
       (bif Nat.beq pc 36 then some (.getfield 19, 3, 4, 0, 58, .null) else none))) else
     (bif Nat.blt pc 43 then (bif Nat.blt pc 40 then (bif Nat.beq pc 39 then some (.aload_n 0, 1, 0, 0, 0, mj_u) else none) else
       (bif Nat.beq pc 40 then some (.getfield 7, 3, 5, 0, 220, .null) else none)) else
      (bif Nat.blt pc 45 then (bif Nat.beq pc 43 then some (.iload 4, 2, 4, 0, 0, mj_u) else none) else
       (bif Nat.blt pc 47 then (bif Nat.beq pc 45 then some (.iload 5, 2, 5, 0, 0, mj_u) else none) else
        (bif Nat.beq pc 47 then some (.invokevirtual 23, 3, 12, 0, 677, mj_u) else none))))) else
    (bif Nat.blt pc 56 then (bif Nat.blt pc 53 then (bif Nat.blt pc 51 then (bif Nat.beq pc 50 then some (.iaload, 1, 0, 0, 0, mj_u) else none) else
       (bif Nat.beq pc 51 then some (.istore 8, 2, 8, 0, 0, mj_u) else none)) else
      (bif Nat.blt pc 54 then (bif Nat.beq pc 53 then some (.iconst 1, 1, 0, 0, 0, .int 1) else none) else
       (bif Nat.beq pc 54 then some (.istore 9, 2, 9, 0, 0, mj_u) else none))) else
     (bif Nat.blt pc 60 then (bif Nat.blt pc 58 then (bif Nat.beq pc 56 then some (.iload 9, 2, 9, 0, 0, mj_u) else none) else
       (bif Nat.beq pc 58 then some (.iload 6, 2, 6, 0, 0, mj_u) else none)) else
      (bif Nat.blt pc 63 then (bif Nat.beq pc 60 then some (.if_icmp .ge 70, 3, 130, 0, 0, mj_u) else none) else
       (bif Nat.blt pc 64 then (bif Nat.beq pc 63 then some (.aload_n 0, 1, 0, 0, 0, mj_u) else none) else
        (bif Nat.beq pc 64 then some (.getfield 7, 3, 5, 0, 220, .null) else none))))))) else
  (bif Nat.blt pc 102 then (bif Nat.blt pc 82 then (bif Nat.blt pc 74 then (bif Nat.blt pc 70 then (bif Nat.blt pc 68 then (bif Nat.beq pc 67 then some (.iload_n 1, 1, 1, 0, 0, mj_u) else none) else
       (bif Nat.beq pc 68 then some (.iload 4, 2, 4, 0, 0, mj_u) else none)) else
      (bif Nat.blt pc 72 then (bif Nat.beq pc 70 then some (.iload 9, 2, 9, 0, 0, mj_u) else none) else
       (bif Nat.beq pc 72 then some (.iload 6, 2, 6, 0, 0, mj_u) else none))) else
     (bif Nat.blt pc 78 then (bif Nat.blt pc 77 then (bif Nat.beq pc 74 then some (.invokestatic 27, 3, 88, 0, 678, mj_u) else none) else
       (bif Nat.beq pc 77 then some (.iload_n 2, 1, 2, 0, 0, mj_u) else none)) else
      (bif Nat.blt pc 80 then (bif Nat.beq pc 78 then some (.iload 5, 2, 5, 0, 0, mj_u) else none) else
       (bif Nat.beq pc 80 then some (.iload 9, 2, 9, 0, 0, mj_u) else none)))) else
    (bif Nat.blt pc 92 then (bif Nat.blt pc 87 then (bif Nat.blt pc 84 then (bif Nat.beq pc 82 then some (.iload 6, 2, 6, 0, 0, mj_u) else none) else
       (bif Nat.beq pc 84 then some (.invokestatic 27, 3, 88, 0, 678, mj_u) else none)) else
      (bif Nat.blt pc 90 then (bif Nat.beq pc 87 then some (.invokevirtual 23, 3, 12, 0, 677, mj_u) else none) else
       (bif Nat.beq pc 90 then some (.istore 10, 2, 10, 0, 0, mj_u) else none))) else
     (bif Nat.blt pc 96 then (bif Nat.blt pc 93 then (bif Nat.beq pc 92 then some (.aload_n 0, 1, 0, 0, 0, mj_u) else none) else
       (bif Nat.beq pc 93 then some (.getfield 7, 3, 5, 0, 220, .null) else none)) else
      (bif Nat.blt pc 99 then (bif Nat.beq pc 96 then some (.getfield 19, 3, 4, 0, 58, .null) else none) else
       (bif Nat.blt pc 101 then (bif Nat.beq pc 99 then some (.iload 10, 2, 10, 0, 0, mj_u) else none) else
        (bif Nat.beq pc 101 then some (.iaload, 1, 0, 0, 0, mj_u) else none)))))) else
   (bif Nat.blt pc 117 then (bif Nat.blt pc 109 then (bif Nat.blt pc 105 then (bif Nat.blt pc 104 then (bif Nat.beq pc 102 then some (.iload 6, 2, 6, 0, 0, mj_u) else none) else
       (bif Nat.beq pc 104 then some (.imul, 1, 0, 0, 0, mj_u) else none)) else
      (bif Nat.blt pc 107 then (bif Nat.beq pc 105 then some (.iload 7, 2, 7, 0, 0, mj_u) else none) else
       (bif Nat.beq pc 107 then some (.iload 6, 2, 6, 0, 0, mj_u) else none))) else
     (bif Nat.blt pc 112 then (bif Nat.blt pc 111 then (bif Nat.beq pc 109 then some (.iload 9, 2, 9, 0, 0, mj_u) else none) else
       (bif Nat.beq pc 111 then some (.isub, 1, 0, 0, 0, mj_u) else none)) else
      (bif Nat.blt pc 113 then (bif Nat.beq pc 112 then some (.imul, 1, 0, 0, 0, mj_u) else none) else
       (bif Nat.blt pc 115 then (bif Nat.beq pc 113 then some (.iload 8, 2, 8, 0, 0, mj_u) else none) else
        (bif Nat.beq pc 115 then some (.iload 9, 2, 9, 0, 0, mj_u) else none))))) else
    (bif Nat.blt pc 123 then (bif Nat.blt pc 119 then (bif Nat.blt pc 118 then (bif Nat.beq pc 117 then some (.imul, 1, 0, 0, 0, mj_u) else none) else
       (bif Nat.beq pc 118 then some (.iadd, 1, 0, 0, 0, mj_u) else none)) else
      (bif Nat.blt pc 122 then (bif Nat.beq pc 119 then some (.if_icmp .le 5, 3, 124, 0, 0, mj_u) else none) else
       (bif Nat.beq pc 122 then some (.iconst 0, 1, 0, 0, 0, .int 0) else none))) else
     (bif Nat.blt pc 127 then (bif Nat.blt pc 124 then (bif Nat.beq pc 123 then some (.ireturn, 1, 0, 0, 0, mj_u) else none) else
       (bif Nat.beq pc 124 then some (.iinc 9 1, 3, 9, 0, 0, .int 1) else none)) else
      (bif Nat.blt pc 130 then (bif Nat.beq pc 127 then some (.goto (-71), 3, 56, 0, 0, mj_u) else none) else
       (bif Nat.blt pc 131 then (bif Nat.beq pc 130 then some (.iconst 1, 1, 0, 0, 0, .int 1) else none) else
        (bif Nat.beq pc 131 then some (.ireturn, 1, 0, 0, 0, mj_u) else none)))))))
def m_Sight_reaches : mj_M := (86, prog_7_method_2_code, 11, (Option.some Jvm.ClassFile.FieldType.boolean), 5, 5, 673, 671, 672, 33, 132, k_Sight_reaches)
/-- WatershedMap$Land.stepsBetween(IIII)I static -/
def k_Land_stepsBetween : Nat → Option mj_I := fun pc =>
  bif Nat.blt pc 7 then (bif Nat.blt pc 2 then (bif Nat.blt pc 1 then (bif Nat.beq pc 0 then some (.iload_n 2, 1, 2, 0, 0, mj_u) else none) else
    (bif Nat.beq pc 1 then some (.iload_n 0, 1, 0, 0, 0, mj_u) else none)) else
   (bif Nat.blt pc 3 then (bif Nat.beq pc 2 then some (.isub, 1, 0, 0, 0, mj_u) else none) else
    (bif Nat.blt pc 6 then (bif Nat.beq pc 3 then some (.invokestatic 58, 3, 39, 0, 477, mj_u) else none) else
     (bif Nat.beq pc 6 then some (.iload_n 3, 1, 3, 0, 0, mj_u) else none)))) else
  (bif Nat.blt pc 9 then (bif Nat.blt pc 8 then (bif Nat.beq pc 7 then some (.iload_n 1, 1, 1, 0, 0, mj_u) else none) else
    (bif Nat.beq pc 8 then some (.isub, 1, 0, 0, 0, mj_u) else none)) else
   (bif Nat.blt pc 12 then (bif Nat.beq pc 9 then some (.invokestatic 58, 3, 39, 0, 477, mj_u) else none) else
    (bif Nat.blt pc 15 then (bif Nat.beq pc 12 then some (.invokestatic 77, 3, 22, 0, 408, mj_u) else none) else
     (bif Nat.beq pc 15 then some (.ireturn, 1, 0, 0, 0, mj_u) else none))))
def m_Land_stepsBetween : mj_M := (87, prog_6_method_18_code, 4, (Option.some Jvm.ClassFile.FieldType.int), 4, 4, 676, 675, 0, 27, 16, k_Land_stepsBetween)
/-- WatershedMap$Land.between(IIII)I static -/
def k_Land_between : Nat → Option mj_I := fun pc =>
  bif Nat.blt pc 14 then (bif Nat.blt pc 9 then (bif Nat.blt pc 2 then (bif Nat.blt pc 1 then (bif Nat.beq pc 0 then some (.iload_n 3, 1, 3, 0, 0, mj_u) else none) else
     (bif Nat.beq pc 1 then some (.iconst 1, 1, 0, 0, 0, .int 1) else none)) else
    (bif Nat.blt pc 5 then (bif Nat.beq pc 2 then some (.if_icmp .ge 7, 3, 9, 0, 0, mj_u) else none) else
     (bif Nat.blt pc 6 then (bif Nat.beq pc 5 then some (.iload_n 0, 1, 0, 0, 0, mj_u) else none) else
      (bif Nat.beq pc 6 then some (.goto 20, 3, 26, 0, 0, mj_u) else none)))) else
   (bif Nat.blt pc 11 then (bif Nat.blt pc 10 then (bif Nat.beq pc 9 then some (.iload_n 0, 1, 0, 0, 0, mj_u) else none) else
     (bif Nat.beq pc 10 then some (.iconst 2, 1, 0, 0, 0, .int 2) else none)) else
    (bif Nat.blt pc 12 then (bif Nat.beq pc 11 then some (.iload_n 2, 1, 2, 0, 0, mj_u) else none) else
     (bif Nat.blt pc 13 then (bif Nat.beq pc 12 then some (.imul, 1, 0, 0, 0, mj_u) else none) else
      (bif Nat.beq pc 13 then some (.iload_n 1, 1, 1, 0, 0, mj_u) else none))))) else
  (bif Nat.blt pc 19 then (bif Nat.blt pc 16 then (bif Nat.blt pc 15 then (bif Nat.beq pc 14 then some (.iload_n 0, 1, 0, 0, 0, mj_u) else none) else
     (bif Nat.beq pc 15 then some (.isub, 1, 0, 0, 0, mj_u) else none)) else
    (bif Nat.blt pc 17 then (bif Nat.beq pc 16 then some (.imul, 1, 0, 0, 0, mj_u) else none) else
     (bif Nat.blt pc 18 then (bif Nat.beq pc 17 then some (.iload_n 3, 1, 3, 0, 0, mj_u) else none) else
      (bif Nat.beq pc 18 then some (.iadd, 1, 0, 0, 0, mj_u) else none)))) else
   (bif Nat.blt pc 22 then (bif Nat.blt pc 20 then (bif Nat.beq pc 19 then some (.iconst 2, 1, 0, 0, 0, .int 2) else none) else
     (bif Nat.blt pc 21 then (bif Nat.beq pc 20 then some (.iload_n 3, 1, 3, 0, 0, mj_u) else none) else
      (bif Nat.beq pc 21 then some (.imul, 1, 0, 0, 0, mj_u) else none))) else
    (bif Nat.blt pc 25 then (bif Nat.beq pc 22 then some (.invokestatic 90, 3, 89, 0, 681, mj_u) else none) else
     (bif Nat.blt pc 26 then (bif Nat.beq pc 25 then some (.iadd, 1, 0, 0, 0, mj_u) else none) else
      (bif Nat.beq pc 26 then some (.ireturn, 1, 0, 0, 0, mj_u) else none)))))
def m_Land_between : mj_M := (88, prog_6_method_19_code, 4, (Option.some Jvm.ClassFile.FieldType.int), 4, 4, 680, 679, 0, 27, 27, k_Land_between)
/-- java/lang/Math.floorDiv(II)I static -/
def k_Math_floorDiv : Nat → Option mj_I := fun pc =>
  bif Nat.blt pc 11 then (bif Nat.blt pc 4 then (bif Nat.blt pc 2 then (bif Nat.blt pc 1 then (bif Nat.beq pc 0 then some (.iload_n 0, 1, 0, 0, 0, mj_u) else none) else
     (bif Nat.beq pc 1 then some (.iload_n 1, 1, 1, 0, 0, mj_u) else none)) else
    (bif Nat.blt pc 3 then (bif Nat.beq pc 2 then some (.idiv, 1, 0, 0, 0, mj_u) else none) else
     (bif Nat.beq pc 3 then some (.istore_n 2, 1, 2, 0, 0, mj_u) else none))) else
   (bif Nat.blt pc 6 then (bif Nat.blt pc 5 then (bif Nat.beq pc 4 then some (.iload_n 0, 1, 0, 0, 0, mj_u) else none) else
     (bif Nat.beq pc 5 then some (.iload_n 1, 1, 1, 0, 0, mj_u) else none)) else
    (bif Nat.blt pc 7 then (bif Nat.beq pc 6 then some (.ixor, 1, 0, 0, 0, mj_u) else none) else
     (bif Nat.blt pc 10 then (bif Nat.beq pc 7 then some (.ifCond .ge 14, 3, 21, 0, 0, mj_u) else none) else
      (bif Nat.beq pc 10 then some (.iload_n 2, 1, 2, 0, 0, mj_u) else none))))) else
  (bif Nat.blt pc 18 then (bif Nat.blt pc 13 then (bif Nat.blt pc 12 then (bif Nat.beq pc 11 then some (.iload_n 1, 1, 1, 0, 0, mj_u) else none) else
     (bif Nat.beq pc 12 then some (.imul, 1, 0, 0, 0, mj_u) else none)) else
    (bif Nat.blt pc 14 then (bif Nat.beq pc 13 then some (.iload_n 0, 1, 0, 0, 0, mj_u) else none) else
     (bif Nat.blt pc 17 then (bif Nat.beq pc 14 then some (.if_icmp .eq 7, 3, 21, 0, 0, mj_u) else none) else
      (bif Nat.beq pc 17 then some (.iload_n 2, 1, 2, 0, 0, mj_u) else none)))) else
   (bif Nat.blt pc 20 then (bif Nat.blt pc 19 then (bif Nat.beq pc 18 then some (.iconst 1, 1, 0, 0, 0, .int 1) else none) else
     (bif Nat.beq pc 19 then some (.isub, 1, 0, 0, 0, mj_u) else none)) else
    (bif Nat.blt pc 21 then (bif Nat.beq pc 20 then some (.ireturn, 1, 0, 0, 0, mj_u) else none) else
     (bif Nat.blt pc 22 then (bif Nat.beq pc 21 then some (.iload_n 2, 1, 2, 0, 0, mj_u) else none) else
      (bif Nat.beq pc 22 then some (.ireturn, 1, 0, 0, 0, mj_u) else none)))))
def m_Math_floorDiv : mj_M := (89, prog_16_method_47_code, 3, (Option.some Jvm.ClassFile.FieldType.int), 9, 2, 683, 682, 0, 41, 23, k_Math_floorDiv)
/-- WatershedMap.seen(III)I -/
def k_W_seen : Nat → Option mj_I := fun pc =>
  bif Nat.blt pc 11 then (bif Nat.blt pc 3 then (bif Nat.blt pc 1 then (bif Nat.beq pc 0 then some (.aload_n 0, 1, 0, 0, 0, mj_u) else none) else
    (bif Nat.blt pc 2 then (bif Nat.beq pc 1 then some (.iload_n 1, 1, 1, 0, 0, mj_u) else none) else
     (bif Nat.beq pc 2 then some (.iload_n 2, 1, 2, 0, 0, mj_u) else none))) else
   (bif Nat.blt pc 7 then (bif Nat.blt pc 6 then (bif Nat.beq pc 3 then some (.invokevirtual 72, 3, 17, 0, 369, mj_u) else none) else
     (bif Nat.beq pc 6 then some (.iload_n 3, 1, 3, 0, 0, mj_u) else none)) else
    (bif Nat.blt pc 8 then (bif Nat.beq pc 7 then some (.iconst 0, 1, 0, 0, 0, .int 0) else none) else
     (bif Nat.beq pc 8 then some (.sipush 500, 3, 0, 0, 0, .int 500) else none)))) else
  (bif Nat.blt pc 19 then (bif Nat.blt pc 15 then (bif Nat.blt pc 14 then (bif Nat.beq pc 11 then some (.invokestatic 65, 3, 15, 0, 295, mj_u) else none) else
     (bif Nat.beq pc 14 then some (.aload_n 0, 1, 0, 0, 0, mj_u) else none)) else
    (bif Nat.blt pc 18 then (bif Nat.beq pc 15 then some (.getfield 42, 3, 8, 4, 270, .null) else none) else
     (bif Nat.beq pc 18 then some (.iload_n 1, 1, 1, 0, 0, mj_u) else none))) else
   (bif Nat.blt pc 21 then (bif Nat.blt pc 20 then (bif Nat.beq pc 19 then some (.iload_n 2, 1, 2, 0, 0, mj_u) else none) else
     (bif Nat.beq pc 20 then some (.iload_n 3, 1, 3, 0, 0, mj_u) else none)) else
    (bif Nat.blt pc 24 then (bif Nat.beq pc 21 then some (.invokevirtual 159, 3, 91, 0, 688, mj_u) else none) else
     (bif Nat.beq pc 24 then some (.ireturn, 1, 0, 0, 0, mj_u) else none))))
def m_W_seen : mj_M := (90, prog_1_method_24_code, 4, (Option.some Jvm.ClassFile.FieldType.int), 8, 3, 687, 685, 686, 26, 25, k_W_seen)
/-- WatershedMap$Sight.countFrom(III)I -/
def k_Sight_countFrom : Nat → Option mj_I := fun pc =>
  bif Nat.blt pc 36 then (bif Nat.blt pc 18 then (bif Nat.blt pc 6 then (bif Nat.blt pc 3 then (bif Nat.blt pc 1 then (bif Nat.beq pc 0 then some (.iconst 0, 1, 0, 0, 0, .int 0) else none) else
      (bif Nat.beq pc 1 then some (.istore 4, 2, 4, 0, 0, mj_u) else none)) else
     (bif Nat.blt pc 4 then (bif Nat.beq pc 3 then some (.iconst 0, 1, 0, 0, 0, .int 0) else none) else
      (bif Nat.beq pc 4 then some (.istore 5, 2, 5, 0, 0, mj_u) else none))) else
    (bif Nat.blt pc 9 then (bif Nat.blt pc 8 then (bif Nat.beq pc 6 then some (.iload 5, 2, 5, 0, 0, mj_u) else none) else
      (bif Nat.beq pc 8 then some (.aload_n 0, 1, 0, 0, 0, mj_u) else none)) else
     (bif Nat.blt pc 12 then (bif Nat.beq pc 9 then some (.getfield 7, 3, 5, 0, 220, .null) else none) else
      (bif Nat.blt pc 15 then (bif Nat.beq pc 12 then some (.getfield 30, 3, 4, 4, 71, .int 0) else none) else
       (bif Nat.beq pc 15 then some (.if_icmp .ge 54, 3, 69, 0, 0, mj_u) else none))))) else
   (bif Nat.blt pc 24 then (bif Nat.blt pc 21 then (bif Nat.blt pc 19 then (bif Nat.beq pc 18 then some (.iconst 0, 1, 0, 0, 0, .int 0) else none) else
      (bif Nat.beq pc 19 then some (.istore 6, 2, 6, 0, 0, mj_u) else none)) else
     (bif Nat.blt pc 23 then (bif Nat.beq pc 21 then some (.iload 6, 2, 6, 0, 0, mj_u) else none) else
      (bif Nat.beq pc 23 then some (.aload_n 0, 1, 0, 0, 0, mj_u) else none))) else
    (bif Nat.blt pc 30 then (bif Nat.blt pc 27 then (bif Nat.beq pc 24 then some (.getfield 7, 3, 5, 0, 220, .null) else none) else
      (bif Nat.beq pc 27 then some (.getfield 34, 3, 4, 3, 67, .int 0) else none)) else
     (bif Nat.blt pc 33 then (bif Nat.beq pc 30 then some (.if_icmp .ge 33, 3, 63, 0, 0, mj_u) else none) else
      (bif Nat.blt pc 35 then (bif Nat.beq pc 33 then some (.iload 4, 2, 4, 0, 0, mj_u) else none) else
       (bif Nat.beq pc 35 then some (.aload_n 0, 1, 0, 0, 0, mj_u) else none)))))) else
  (bif Nat.blt pc 53 then (bif Nat.blt pc 41 then (bif Nat.blt pc 38 then (bif Nat.blt pc 37 then (bif Nat.beq pc 36 then some (.iload_n 1, 1, 1, 0, 0, mj_u) else none) else
      (bif Nat.beq pc 37 then some (.iload_n 2, 1, 2, 0, 0, mj_u) else none)) else
     (bif Nat.blt pc 39 then (bif Nat.beq pc 38 then some (.iload_n 3, 1, 3, 0, 0, mj_u) else none) else
      (bif Nat.beq pc 39 then some (.iload 6, 2, 6, 0, 0, mj_u) else none))) else
    (bif Nat.blt pc 46 then (bif Nat.blt pc 43 then (bif Nat.beq pc 41 then some (.iload 5, 2, 5, 0, 0, mj_u) else none) else
      (bif Nat.beq pc 43 then some (.invokevirtual 37, 3, 86, 0, 692, mj_u) else none)) else
     (bif Nat.blt pc 49 then (bif Nat.beq pc 46 then some (.ifCond .eq 7, 3, 53, 0, 0, mj_u) else none) else
      (bif Nat.blt pc 50 then (bif Nat.beq pc 49 then some (.iconst 1, 1, 0, 0, 0, .int 1) else none) else
       (bif Nat.beq pc 50 then some (.goto 4, 3, 54, 0, 0, mj_u) else none))))) else
   (bif Nat.blt pc 60 then (bif Nat.blt pc 55 then (bif Nat.blt pc 54 then (bif Nat.beq pc 53 then some (.iconst 0, 1, 0, 0, 0, .int 0) else none) else
      (bif Nat.beq pc 54 then some (.iadd, 1, 0, 0, 0, mj_u) else none)) else
     (bif Nat.blt pc 57 then (bif Nat.beq pc 55 then some (.istore 4, 2, 4, 0, 0, mj_u) else none) else
      (bif Nat.beq pc 57 then some (.iinc 6 1, 3, 6, 0, 0, .int 1) else none))) else
    (bif Nat.blt pc 66 then (bif Nat.blt pc 63 then (bif Nat.beq pc 60 then some (.goto (-39), 3, 21, 0, 0, mj_u) else none) else
      (bif Nat.beq pc 63 then some (.iinc 5 1, 3, 5, 0, 0, .int 1) else none)) else
     (bif Nat.blt pc 69 then (bif Nat.beq pc 66 then some (.goto (-60), 3, 6, 0, 0, mj_u) else none) else
      (bif Nat.blt pc 71 then (bif Nat.beq pc 69 then some (.iload 4, 2, 4, 0, 0, mj_u) else none) else
       (bif Nat.beq pc 71 then some (.ireturn, 1, 0, 0, 0, mj_u) else none))))))
def m_Sight_countFrom : mj_M := (91, prog_7_method_3_code, 7, (Option.some Jvm.ClassFile.FieldType.int), 5, 3, 691, 689, 690, 33, 72, k_Sight_countFrom)
/-- WatershedMap.takes(IIII)I -/
def k_W_takes : Nat → Option mj_I := fun pc =>
  bif Nat.blt pc 22 then (bif Nat.blt pc 8 then (bif Nat.blt pc 3 then (bif Nat.blt pc 1 then (bif Nat.beq pc 0 then some (.aload_n 0, 1, 0, 0, 0, mj_u) else none) else
     (bif Nat.blt pc 2 then (bif Nat.beq pc 1 then some (.iload_n 1, 1, 1, 0, 0, mj_u) else none) else
      (bif Nat.beq pc 2 then some (.iload_n 2, 1, 2, 0, 0, mj_u) else none))) else
    (bif Nat.blt pc 6 then (bif Nat.beq pc 3 then some (.invokevirtual 72, 3, 17, 0, 369, mj_u) else none) else
     (bif Nat.blt pc 7 then (bif Nat.beq pc 6 then some (.aload_n 0, 1, 0, 0, 0, mj_u) else none) else
      (bif Nat.beq pc 7 then some (.iload_n 3, 1, 3, 0, 0, mj_u) else none)))) else
   (bif Nat.blt pc 14 then (bif Nat.blt pc 10 then (bif Nat.beq pc 8 then some (.iload 4, 2, 4, 0, 0, mj_u) else none) else
     (bif Nat.blt pc 13 then (bif Nat.beq pc 10 then some (.invokevirtual 72, 3, 17, 0, 369, mj_u) else none) else
      (bif Nat.beq pc 13 then some (.aload_n 0, 1, 0, 0, 0, mj_u) else none))) else
    (bif Nat.blt pc 18 then (bif Nat.blt pc 17 then (bif Nat.beq pc 14 then some (.getfield 49, 3, 8, 5, 271, .null) else none) else
      (bif Nat.beq pc 17 then some (.aload_n 0, 1, 0, 0, 0, mj_u) else none)) else
     (bif Nat.blt pc 21 then (bif Nat.beq pc 18 then some (.getfield 10, 3, 8, 0, 266, .null) else none) else
      (bif Nat.beq pc 21 then some (.iload_n 1, 1, 1, 0, 0, mj_u) else none))))) else
  (bif Nat.blt pc 36 then (bif Nat.blt pc 29 then (bif Nat.blt pc 23 then (bif Nat.beq pc 22 then some (.iload_n 2, 1, 2, 0, 0, mj_u) else none) else
     (bif Nat.blt pc 26 then (bif Nat.beq pc 23 then some (.invokevirtual 75, 3, 12, 0, 390, mj_u) else none) else
      (bif Nat.beq pc 26 then some (.invokevirtual 163, 3, 93, 0, 697, mj_u) else none))) else
    (bif Nat.blt pc 30 then (bif Nat.beq pc 29 then some (.aload_n 0, 1, 0, 0, 0, mj_u) else none) else
     (bif Nat.blt pc 33 then (bif Nat.beq pc 30 then some (.getfield 49, 3, 8, 5, 271, .null) else none) else
      (bif Nat.beq pc 33 then some (.getfield 166, 3, 7, 1, 234, .null) else none)))) else
   (bif Nat.blt pc 41 then (bif Nat.blt pc 37 then (bif Nat.beq pc 36 then some (.aload_n 0, 1, 0, 0, 0, mj_u) else none) else
     (bif Nat.blt pc 40 then (bif Nat.beq pc 37 then some (.getfield 10, 3, 8, 0, 266, .null) else none) else
      (bif Nat.beq pc 40 then some (.iload_n 3, 1, 3, 0, 0, mj_u) else none))) else
    (bif Nat.blt pc 46 then (bif Nat.blt pc 43 then (bif Nat.beq pc 41 then some (.iload 4, 2, 4, 0, 0, mj_u) else none) else
      (bif Nat.beq pc 43 then some (.invokevirtual 75, 3, 12, 0, 390, mj_u) else none)) else
     (bif Nat.blt pc 47 then (bif Nat.beq pc 46 then some (.iaload, 1, 0, 0, 0, mj_u) else none) else
      (bif Nat.beq pc 47 then some (.ireturn, 1, 0, 0, 0, mj_u) else none)))))
def m_W_takes : mj_M := (92, prog_1_method_25_code, 5, (Option.some Jvm.ClassFile.FieldType.int), 8, 4, 696, 694, 695, 26, 48, k_W_takes)
/-- WatershedMap$Ways.spreadFrom(I)V -/
def k_Ways_spreadFrom : Nat → Option mj_I := fun pc =>
  bif Nat.blt pc 33 then (bif Nat.blt pc 20 then (bif Nat.blt pc 9 then (bif Nat.blt pc 4 then (bif Nat.blt pc 1 then (bif Nat.beq pc 0 then some (.aload_n 0, 1, 0, 0, 0, mj_u) else none) else
      (bif Nat.beq pc 1 then some (.getfield 9, 3, 7, 1, 233, .null) else none)) else
     (bif Nat.blt pc 6 then (bif Nat.beq pc 4 then some (.ldc 26, 2, 0, 0, 701, .int 1000000) else none) else
      (bif Nat.beq pc 6 then some (.invokestatic 27, 3, 10, 0, 702, mj_u) else none))) else
    (bif Nat.blt pc 13 then (bif Nat.blt pc 10 then (bif Nat.beq pc 9 then some (.aload_n 0, 1, 0, 0, 0, mj_u) else none) else
      (bif Nat.beq pc 10 then some (.getfield 18, 3, 7, 2, 235, .null) else none)) else
     (bif Nat.blt pc 16 then (bif Nat.beq pc 13 then some (.invokevirtual 33, 3, 44, 0, 703, mj_u) else none) else
      (bif Nat.blt pc 17 then (bif Nat.beq pc 16 then some (.aload_n 0, 1, 0, 0, 0, mj_u) else none) else
       (bif Nat.beq pc 17 then some (.getfield 9, 3, 7, 1, 233, .null) else none))))) else
   (bif Nat.blt pc 24 then (bif Nat.blt pc 22 then (bif Nat.blt pc 21 then (bif Nat.beq pc 20 then some (.iload_n 1, 1, 1, 0, 0, mj_u) else none) else
      (bif Nat.beq pc 21 then some (.iconst 0, 1, 0, 0, 0, .int 0) else none)) else
     (bif Nat.blt pc 23 then (bif Nat.beq pc 22 then some (.iastore, 1, 0, 0, 0, mj_u) else none) else
      (bif Nat.beq pc 23 then some (.aload_n 0, 1, 0, 0, 0, mj_u) else none))) else
    (bif Nat.blt pc 28 then (bif Nat.blt pc 27 then (bif Nat.beq pc 24 then some (.getfield 18, 3, 7, 2, 235, .null) else none) else
      (bif Nat.beq pc 27 then some (.iload_n 1, 1, 1, 0, 0, mj_u) else none)) else
     (bif Nat.blt pc 31 then (bif Nat.beq pc 28 then some (.invokevirtual 36, 3, 45, 0, 704, mj_u) else none) else
      (bif Nat.blt pc 32 then (bif Nat.beq pc 31 then some (.iconst 0, 1, 0, 0, 0, .int 0) else none) else
       (bif Nat.beq pc 32 then some (.istore_n 2, 1, 2, 0, 0, mj_u) else none)))))) else
  (bif Nat.blt pc 52 then (bif Nat.blt pc 41 then (bif Nat.blt pc 35 then (bif Nat.blt pc 34 then (bif Nat.beq pc 33 then some (.iload_n 2, 1, 2, 0, 0, mj_u) else none) else
      (bif Nat.beq pc 34 then some (.aload_n 0, 1, 0, 0, 0, mj_u) else none)) else
     (bif Nat.blt pc 38 then (bif Nat.beq pc 35 then some (.getfield 22, 3, 7, 0, 232, .null) else none) else
      (bif Nat.beq pc 38 then some (.getfield 40, 3, 4, 5, 76, .int 0) else none))) else
    (bif Nat.blt pc 45 then (bif Nat.blt pc 44 then (bif Nat.beq pc 41 then some (.if_icmp .ge 30, 3, 71, 0, 0, mj_u) else none) else
      (bif Nat.beq pc 44 then some (.aload_n 0, 1, 0, 0, 0, mj_u) else none)) else
     (bif Nat.blt pc 48 then (bif Nat.beq pc 45 then some (.getfield 18, 3, 7, 2, 235, .null) else none) else
      (bif Nat.blt pc 49 then (bif Nat.beq pc 48 then some (.aload_n 0, 1, 0, 0, 0, mj_u) else none) else
       (bif Nat.beq pc 49 then some (.getfield 9, 3, 7, 1, 233, .null) else none))))) else
   (bif Nat.blt pc 61 then (bif Nat.blt pc 56 then (bif Nat.blt pc 55 then (bif Nat.beq pc 52 then some (.invokevirtual 46, 3, 46, 0, 705, mj_u) else none) else
      (bif Nat.beq pc 55 then some (.istore_n 3, 1, 3, 0, 0, mj_u) else none)) else
     (bif Nat.blt pc 57 then (bif Nat.beq pc 56 then some (.iload_n 3, 1, 3, 0, 0, mj_u) else none) else
      (bif Nat.blt pc 60 then (bif Nat.beq pc 57 then some (.ifCond .lt 8, 3, 65, 0, 0, mj_u) else none) else
       (bif Nat.beq pc 60 then some (.aload_n 0, 1, 0, 0, 0, mj_u) else none)))) else
    (bif Nat.blt pc 65 then (bif Nat.blt pc 62 then (bif Nat.beq pc 61 then some (.iload_n 3, 1, 3, 0, 0, mj_u) else none) else
      (bif Nat.beq pc 62 then some (.invokevirtual 50, 3, 94, 0, 706, mj_u) else none)) else
     (bif Nat.blt pc 68 then (bif Nat.beq pc 65 then some (.iinc 2 1, 3, 2, 0, 0, .int 1) else none) else
      (bif Nat.blt pc 71 then (bif Nat.beq pc 68 then some (.goto (-35), 3, 33, 0, 0, mj_u) else none) else
       (bif Nat.beq pc 71 then some (.return_, 1, 0, 0, 0, mj_u) else none))))))
def m_Ways_spreadFrom : mj_M := (93, prog_9_method_2_code, 4, (Option.none : Option Jvm.ClassFile.FieldType), 7, 1, 700, 698, 699, 34, 72, k_Ways_spreadFrom)
/-- WatershedMap$Ways.spread(I)V -/
def k_Ways_spread : Nat → Option mj_I := fun pc =>
  bif Nat.blt pc 42 then (bif Nat.blt pc 22 then (bif Nat.blt pc 9 then (bif Nat.blt pc 3 then (bif Nat.blt pc 1 then (bif Nat.beq pc 0 then some (.iconst 0, 1, 0, 0, 0, .int 0) else none) else
      (bif Nat.blt pc 2 then (bif Nat.beq pc 1 then some (.istore_n 2, 1, 2, 0, 0, mj_u) else none) else
       (bif Nat.beq pc 2 then some (.iload_n 2, 1, 2, 0, 0, mj_u) else none))) else
     (bif Nat.blt pc 5 then (bif Nat.beq pc 3 then some (.bipush 8, 2, 0, 0, 0, .int 8) else none) else
      (bif Nat.blt pc 8 then (bif Nat.beq pc 5 then some (.if_icmp .ge 85, 3, 90, 0, 0, mj_u) else none) else
       (bif Nat.beq pc 8 then some (.aload_n 0, 1, 0, 0, 0, mj_u) else none)))) else
    (bif Nat.blt pc 14 then (bif Nat.blt pc 12 then (bif Nat.beq pc 9 then some (.getfield 22, 3, 7, 0, 232, .null) else none) else
      (bif Nat.blt pc 13 then (bif Nat.beq pc 12 then some (.iload_n 1, 1, 1, 0, 0, mj_u) else none) else
       (bif Nat.beq pc 13 then some (.iload_n 2, 1, 2, 0, 0, mj_u) else none))) else
     (bif Nat.blt pc 18 then (bif Nat.blt pc 17 then (bif Nat.beq pc 14 then some (.invokevirtual 53, 3, 27, 0, 710, mj_u) else none) else
       (bif Nat.beq pc 17 then some (.istore_n 3, 1, 3, 0, 0, mj_u) else none)) else
      (bif Nat.blt pc 19 then (bif Nat.beq pc 18 then some (.iload_n 3, 1, 3, 0, 0, mj_u) else none) else
       (bif Nat.beq pc 19 then some (.ifCond .lt 65, 3, 84, 0, 0, mj_u) else none))))) else
   (bif Nat.blt pc 31 then (bif Nat.blt pc 27 then (bif Nat.blt pc 23 then (bif Nat.beq pc 22 then some (.aload_n 0, 1, 0, 0, 0, mj_u) else none) else
      (bif Nat.blt pc 26 then (bif Nat.beq pc 23 then some (.getfield 9, 3, 7, 1, 233, .null) else none) else
       (bif Nat.beq pc 26 then some (.iload_n 1, 1, 1, 0, 0, mj_u) else none))) else
     (bif Nat.blt pc 29 then (bif Nat.blt pc 28 then (bif Nat.beq pc 27 then some (.iaload, 1, 0, 0, 0, mj_u) else none) else
       (bif Nat.beq pc 28 then some (.aload_n 0, 1, 0, 0, 0, mj_u) else none)) else
      (bif Nat.blt pc 30 then (bif Nat.beq pc 29 then some (.iload_n 1, 1, 1, 0, 0, mj_u) else none) else
       (bif Nat.beq pc 30 then some (.iload_n 3, 1, 3, 0, 0, mj_u) else none)))) else
    (bif Nat.blt pc 36 then (bif Nat.blt pc 32 then (bif Nat.beq pc 31 then some (.iload_n 2, 1, 2, 0, 0, mj_u) else none) else
      (bif Nat.blt pc 35 then (bif Nat.beq pc 32 then some (.invokevirtual 57, 3, 95, 0, 711, mj_u) else none) else
       (bif Nat.beq pc 35 then some (.iadd, 1, 0, 0, 0, mj_u) else none))) else
     (bif Nat.blt pc 40 then (bif Nat.blt pc 37 then (bif Nat.beq pc 36 then some (.aload_n 0, 1, 0, 0, 0, mj_u) else none) else
       (bif Nat.beq pc 37 then some (.getfield 9, 3, 7, 1, 233, .null) else none)) else
      (bif Nat.blt pc 41 then (bif Nat.beq pc 40 then some (.iload_n 3, 1, 3, 0, 0, mj_u) else none) else
       (bif Nat.beq pc 41 then some (.iaload, 1, 0, 0, 0, mj_u) else none)))))) else
  (bif Nat.blt pc 69 then (bif Nat.blt pc 56 then (bif Nat.blt pc 49 then (bif Nat.blt pc 45 then (bif Nat.beq pc 42 then some (.if_icmp .ge 42, 3, 84, 0, 0, mj_u) else none) else
      (bif Nat.blt pc 46 then (bif Nat.beq pc 45 then some (.aload_n 0, 1, 0, 0, 0, mj_u) else none) else
       (bif Nat.beq pc 46 then some (.getfield 9, 3, 7, 1, 233, .null) else none))) else
     (bif Nat.blt pc 51 then (bif Nat.blt pc 50 then (bif Nat.beq pc 49 then some (.iload_n 3, 1, 3, 0, 0, mj_u) else none) else
       (bif Nat.beq pc 50 then some (.iaload, 1, 0, 0, 0, mj_u) else none)) else
      (bif Nat.blt pc 53 then (bif Nat.beq pc 51 then some (.ldc 26, 2, 0, 0, 701, .int 1000000) else none) else
       (bif Nat.beq pc 53 then some (.if_icmp .ne 11, 3, 64, 0, 0, mj_u) else none)))) else
    (bif Nat.blt pc 61 then (bif Nat.blt pc 57 then (bif Nat.beq pc 56 then some (.aload_n 0, 1, 0, 0, 0, mj_u) else none) else
      (bif Nat.blt pc 60 then (bif Nat.beq pc 57 then some (.getfield 18, 3, 7, 2, 235, .null) else none) else
       (bif Nat.beq pc 60 then some (.iload_n 3, 1, 3, 0, 0, mj_u) else none))) else
     (bif Nat.blt pc 65 then (bif Nat.blt pc 64 then (bif Nat.beq pc 61 then some (.invokevirtual 36, 3, 45, 0, 704, mj_u) else none) else
       (bif Nat.beq pc 64 then some (.aload_n 0, 1, 0, 0, 0, mj_u) else none)) else
      (bif Nat.blt pc 68 then (bif Nat.beq pc 65 then some (.getfield 9, 3, 7, 1, 233, .null) else none) else
       (bif Nat.beq pc 68 then some (.iload_n 3, 1, 3, 0, 0, mj_u) else none))))) else
   (bif Nat.blt pc 78 then (bif Nat.blt pc 74 then (bif Nat.blt pc 70 then (bif Nat.beq pc 69 then some (.aload_n 0, 1, 0, 0, 0, mj_u) else none) else
      (bif Nat.blt pc 73 then (bif Nat.beq pc 70 then some (.getfield 9, 3, 7, 1, 233, .null) else none) else
       (bif Nat.beq pc 73 then some (.iload_n 1, 1, 1, 0, 0, mj_u) else none))) else
     (bif Nat.blt pc 76 then (bif Nat.blt pc 75 then (bif Nat.beq pc 74 then some (.iaload, 1, 0, 0, 0, mj_u) else none) else
       (bif Nat.beq pc 75 then some (.aload_n 0, 1, 0, 0, 0, mj_u) else none)) else
      (bif Nat.blt pc 77 then (bif Nat.beq pc 76 then some (.iload_n 1, 1, 1, 0, 0, mj_u) else none) else
       (bif Nat.beq pc 77 then some (.iload_n 3, 1, 3, 0, 0, mj_u) else none)))) else
    (bif Nat.blt pc 83 then (bif Nat.blt pc 79 then (bif Nat.beq pc 78 then some (.iload_n 2, 1, 2, 0, 0, mj_u) else none) else
      (bif Nat.blt pc 82 then (bif Nat.beq pc 79 then some (.invokevirtual 57, 3, 95, 0, 711, mj_u) else none) else
       (bif Nat.beq pc 82 then some (.iadd, 1, 0, 0, 0, mj_u) else none))) else
     (bif Nat.blt pc 87 then (bif Nat.blt pc 84 then (bif Nat.beq pc 83 then some (.iastore, 1, 0, 0, 0, mj_u) else none) else
       (bif Nat.beq pc 84 then some (.iinc 2 1, 3, 2, 0, 0, .int 1) else none)) else
      (bif Nat.blt pc 90 then (bif Nat.beq pc 87 then some (.goto (-85), 3, 2, 0, 0, mj_u) else none) else
       (bif Nat.beq pc 90 then some (.return_, 1, 0, 0, 0, mj_u) else none))))))
def m_Ways_spread : mj_M := (94, prog_9_method_3_code, 4, (Option.none : Option Jvm.ClassFile.FieldType), 7, 1, 709, 708, 20, 34, 91, k_Ways_spread)
/-- WatershedMap$Ways.step(III)I -/
def k_Ways_step : Nat → Option mj_I := fun pc =>
  bif Nat.blt pc 14 then (bif Nat.blt pc 7 then (bif Nat.blt pc 1 then (bif Nat.beq pc 0 then some (.iload_n 3, 1, 3, 0, 0, mj_u) else none) else
    (bif Nat.blt pc 4 then (bif Nat.beq pc 1 then some (.invokestatic 61, 3, 32, 0, 715, mj_u) else none) else
     (bif Nat.beq pc 4 then some (.ifCond .eq 8, 3, 12, 0, 0, mj_u) else none))) else
   (bif Nat.blt pc 9 then (bif Nat.beq pc 7 then some (.bipush 14, 2, 0, 0, 0, .int 14) else none) else
    (bif Nat.blt pc 12 then (bif Nat.beq pc 9 then some (.goto 5, 3, 14, 0, 0, mj_u) else none) else
     (bif Nat.beq pc 12 then some (.bipush 10, 2, 0, 0, 0, .int 10) else none)))) else
  (bif Nat.blt pc 19 then (bif Nat.blt pc 15 then (bif Nat.beq pc 14 then some (.aload_n 0, 1, 0, 0, 0, mj_u) else none) else
    (bif Nat.blt pc 18 then (bif Nat.beq pc 15 then some (.getfield 22, 3, 7, 0, 232, .null) else none) else
     (bif Nat.beq pc 18 then some (.iload_n 1, 1, 1, 0, 0, mj_u) else none))) else
   (bif Nat.blt pc 23 then (bif Nat.blt pc 20 then (bif Nat.beq pc 19 then some (.iload_n 2, 1, 2, 0, 0, mj_u) else none) else
     (bif Nat.beq pc 20 then some (.invokevirtual 65, 3, 38, 0, 716, mj_u) else none)) else
    (bif Nat.blt pc 24 then (bif Nat.beq pc 23 then some (.iadd, 1, 0, 0, 0, mj_u) else none) else
     (bif Nat.beq pc 24 then some (.ireturn, 1, 0, 0, 0, mj_u) else none))))
def m_Ways_step : mj_M := (95, prog_9_method_4_code, 4, (Option.some Jvm.ClassFile.FieldType.int), 7, 3, 714, 713, 21, 34, 25, k_Ways_step)
/-- WatershedMap.way(IIIII)I -/
def k_W_way : Nat → Option mj_I := fun pc =>
  bif Nat.blt pc 33 then (bif Nat.blt pc 15 then (bif Nat.blt pc 6 then (bif Nat.blt pc 2 then (bif Nat.blt pc 1 then (bif Nat.beq pc 0 then some (.aload_n 0, 1, 0, 0, 0, mj_u) else none) else
      (bif Nat.beq pc 1 then some (.iload_n 1, 1, 1, 0, 0, mj_u) else none)) else
     (bif Nat.blt pc 3 then (bif Nat.beq pc 2 then some (.iload_n 2, 1, 2, 0, 0, mj_u) else none) else
      (bif Nat.beq pc 3 then some (.invokevirtual 72, 3, 17, 0, 369, mj_u) else none))) else
    (bif Nat.blt pc 8 then (bif Nat.blt pc 7 then (bif Nat.beq pc 6 then some (.aload_n 0, 1, 0, 0, 0, mj_u) else none) else
      (bif Nat.beq pc 7 then some (.iload_n 3, 1, 3, 0, 0, mj_u) else none)) else
     (bif Nat.blt pc 10 then (bif Nat.beq pc 8 then some (.iload 4, 2, 4, 0, 0, mj_u) else none) else
      (bif Nat.blt pc 13 then (bif Nat.beq pc 10 then some (.invokevirtual 72, 3, 17, 0, 369, mj_u) else none) else
       (bif Nat.beq pc 13 then some (.iload 5, 2, 5, 0, 0, mj_u) else none))))) else
   (bif Nat.blt pc 24 then (bif Nat.blt pc 21 then (bif Nat.blt pc 18 then (bif Nat.beq pc 15 then some (.ifCond .ge 13, 3, 28, 0, 0, mj_u) else none) else
      (bif Nat.beq pc 18 then some (.new 169, 3, 1000, 0, 0, mj_u) else none)) else
     (bif Nat.blt pc 22 then (bif Nat.beq pc 21 then some (.dup, 1, 0, 0, 0, mj_u) else none) else
      (bif Nat.beq pc 22 then some (.ldc 171, 2, 0, 0, 0, mj_u) else none))) else
    (bif Nat.blt pc 28 then (bif Nat.blt pc 27 then (bif Nat.beq pc 24 then some (.invokespecial 173, 3, 1002, 0, 339, mj_u) else none) else
      (bif Nat.beq pc 27 then some (.athrow, 1, 0, 0, 0, mj_u) else none)) else
     (bif Nat.blt pc 29 then (bif Nat.beq pc 28 then some (.aload_n 0, 1, 0, 0, 0, mj_u) else none) else
      (bif Nat.blt pc 32 then (bif Nat.beq pc 29 then some (.getfield 10, 3, 8, 0, 266, .null) else none) else
       (bif Nat.beq pc 32 then some (.iload_n 1, 1, 1, 0, 0, mj_u) else none)))))) else
  (bif Nat.blt pc 52 then (bif Nat.blt pc 40 then (bif Nat.blt pc 37 then (bif Nat.blt pc 34 then (bif Nat.beq pc 33 then some (.iload_n 2, 1, 2, 0, 0, mj_u) else none) else
      (bif Nat.beq pc 34 then some (.invokevirtual 75, 3, 12, 0, 390, mj_u) else none)) else
     (bif Nat.blt pc 39 then (bif Nat.beq pc 37 then some (.istore 6, 2, 6, 0, 0, mj_u) else none) else
      (bif Nat.beq pc 39 then some (.aload_n 0, 1, 0, 0, 0, mj_u) else none))) else
    (bif Nat.blt pc 45 then (bif Nat.blt pc 43 then (bif Nat.beq pc 40 then some (.getfield 49, 3, 8, 5, 271, .null) else none) else
      (bif Nat.beq pc 43 then some (.iload 6, 2, 6, 0, 0, mj_u) else none)) else
     (bif Nat.blt pc 48 then (bif Nat.beq pc 45 then some (.invokevirtual 163, 3, 93, 0, 697, mj_u) else none) else
      (bif Nat.blt pc 49 then (bif Nat.beq pc 48 then some (.aload_n 0, 1, 0, 0, 0, mj_u) else none) else
       (bif Nat.beq pc 49 then some (.getfield 49, 3, 8, 5, 271, .null) else none))))) else
   (bif Nat.blt pc 59 then (bif Nat.blt pc 55 then (bif Nat.blt pc 54 then (bif Nat.beq pc 52 then some (.iload 6, 2, 6, 0, 0, mj_u) else none) else
      (bif Nat.beq pc 54 then some (.aload_n 0, 1, 0, 0, 0, mj_u) else none)) else
     (bif Nat.blt pc 58 then (bif Nat.beq pc 55 then some (.getfield 10, 3, 8, 0, 266, .null) else none) else
      (bif Nat.beq pc 58 then some (.iload_n 3, 1, 3, 0, 0, mj_u) else none))) else
    (bif Nat.blt pc 64 then (bif Nat.blt pc 61 then (bif Nat.beq pc 59 then some (.iload 4, 2, 4, 0, 0, mj_u) else none) else
      (bif Nat.beq pc 61 then some (.invokevirtual 75, 3, 12, 0, 390, mj_u) else none)) else
     (bif Nat.blt pc 66 then (bif Nat.beq pc 64 then some (.iload 5, 2, 5, 0, 0, mj_u) else none) else
      (bif Nat.blt pc 69 then (bif Nat.beq pc 66 then some (.invokevirtual 176, 3, 97, 0, 722, mj_u) else none) else
       (bif Nat.beq pc 69 then some (.ireturn, 1, 0, 0, 0, mj_u) else none))))))
def m_W_way : mj_M := (96, prog_1_method_26_code, 7, (Option.some Jvm.ClassFile.FieldType.int), 8, 5, 720, 718, 719, 26, 70, k_W_way)
/-- WatershedMap$Ways.goBack(III)I -/
def k_Ways_goBack : Nat → Option mj_I := fun pc =>
  bif Nat.blt pc 25 then (bif Nat.blt pc 13 then (bif Nat.blt pc 5 then (bif Nat.blt pc 1 then (bif Nat.beq pc 0 then some (.iload_n 3, 1, 3, 0, 0, mj_u) else none) else
     (bif Nat.blt pc 2 then (bif Nat.beq pc 1 then some (.aload_n 0, 1, 0, 0, 0, mj_u) else none) else
      (bif Nat.beq pc 2 then some (.getfield 22, 3, 7, 0, 232, .null) else none))) else
    (bif Nat.blt pc 11 then (bif Nat.blt pc 8 then (bif Nat.beq pc 5 then some (.getfield 40, 3, 4, 5, 76, .int 0) else none) else
      (bif Nat.beq pc 8 then some (.if_icmp .lt 5, 3, 13, 0, 0, mj_u) else none)) else
     (bif Nat.blt pc 12 then (bif Nat.beq pc 11 then some (.iconst (-1), 1, 0, 0, 0, .int (-1)) else none) else
      (bif Nat.beq pc 12 then some (.ireturn, 1, 0, 0, 0, mj_u) else none)))) else
   (bif Nat.blt pc 17 then (bif Nat.blt pc 14 then (bif Nat.beq pc 13 then some (.iload_n 2, 1, 2, 0, 0, mj_u) else none) else
     (bif Nat.blt pc 16 then (bif Nat.beq pc 14 then some (.istore 4, 2, 4, 0, 0, mj_u) else none) else
      (bif Nat.beq pc 16 then some (.iconst 0, 1, 0, 0, 0, .int 0) else none))) else
    (bif Nat.blt pc 21 then (bif Nat.blt pc 19 then (bif Nat.beq pc 17 then some (.istore 5, 2, 5, 0, 0, mj_u) else none) else
      (bif Nat.beq pc 19 then some (.iload 5, 2, 5, 0, 0, mj_u) else none)) else
     (bif Nat.blt pc 22 then (bif Nat.beq pc 21 then some (.iload_n 3, 1, 3, 0, 0, mj_u) else none) else
      (bif Nat.beq pc 22 then some (.if_icmp .ge 32, 3, 54, 0, 0, mj_u) else none))))) else
  (bif Nat.blt pc 40 then (bif Nat.blt pc 32 then (bif Nat.blt pc 27 then (bif Nat.beq pc 25 then some (.iload 4, 2, 4, 0, 0, mj_u) else none) else
     (bif Nat.blt pc 30 then (bif Nat.beq pc 27 then some (.ifCond .lt 27, 3, 54, 0, 0, mj_u) else none) else
      (bif Nat.beq pc 30 then some (.iload 4, 2, 4, 0, 0, mj_u) else none))) else
    (bif Nat.blt pc 36 then (bif Nat.blt pc 33 then (bif Nat.beq pc 32 then some (.iload_n 1, 1, 1, 0, 0, mj_u) else none) else
      (bif Nat.beq pc 33 then some (.if_icmp .ne 7, 3, 40, 0, 0, mj_u) else none)) else
     (bif Nat.blt pc 37 then (bif Nat.beq pc 36 then some (.iconst (-1), 1, 0, 0, 0, .int (-1)) else none) else
      (bif Nat.beq pc 37 then some (.goto 9, 3, 46, 0, 0, mj_u) else none)))) else
   (bif Nat.blt pc 48 then (bif Nat.blt pc 43 then (bif Nat.blt pc 41 then (bif Nat.beq pc 40 then some (.aload_n 0, 1, 0, 0, 0, mj_u) else none) else
      (bif Nat.beq pc 41 then some (.iload 4, 2, 4, 0, 0, mj_u) else none)) else
     (bif Nat.blt pc 46 then (bif Nat.beq pc 43 then some (.invokevirtual 68, 3, 98, 0, 726, mj_u) else none) else
      (bif Nat.beq pc 46 then some (.istore 4, 2, 4, 0, 0, mj_u) else none))) else
    (bif Nat.blt pc 54 then (bif Nat.blt pc 51 then (bif Nat.beq pc 48 then some (.iinc 5 1, 3, 5, 0, 0, .int 1) else none) else
      (bif Nat.beq pc 51 then some (.goto (-32), 3, 19, 0, 0, mj_u) else none)) else
     (bif Nat.blt pc 56 then (bif Nat.beq pc 54 then some (.iload 4, 2, 4, 0, 0, mj_u) else none) else
      (bif Nat.beq pc 56 then some (.ireturn, 1, 0, 0, 0, mj_u) else none)))))
def m_Ways_goBack : mj_M := (97, prog_9_method_5_code, 6, (Option.some Jvm.ClassFile.FieldType.int), 7, 3, 725, 723, 724, 34, 57, k_Ways_goBack)
/-- WatershedMap$Ways.fieldAhead(I)I -/
def k_Ways_fieldAhead : Nat → Option mj_I := fun pc =>
  bif Nat.blt pc 34 then (bif Nat.blt pc 15 then (bif Nat.blt pc 5 then (bif Nat.blt pc 2 then (bif Nat.blt pc 1 then (bif Nat.beq pc 0 then some (.iconst (-1), 1, 0, 0, 0, .int (-1)) else none) else
      (bif Nat.beq pc 1 then some (.istore_n 2, 1, 2, 0, 0, mj_u) else none)) else
     (bif Nat.blt pc 3 then (bif Nat.beq pc 2 then some (.iconst 0, 1, 0, 0, 0, .int 0) else none) else
      (bif Nat.blt pc 4 then (bif Nat.beq pc 3 then some (.istore_n 3, 1, 3, 0, 0, mj_u) else none) else
       (bif Nat.beq pc 4 then some (.iload_n 3, 1, 3, 0, 0, mj_u) else none)))) else
    (bif Nat.blt pc 10 then (bif Nat.blt pc 7 then (bif Nat.beq pc 5 then some (.bipush 8, 2, 0, 0, 0, .int 8) else none) else
      (bif Nat.beq pc 7 then some (.if_icmp .ge 63, 3, 70, 0, 0, mj_u) else none)) else
     (bif Nat.blt pc 11 then (bif Nat.beq pc 10 then some (.aload_n 0, 1, 0, 0, 0, mj_u) else none) else
      (bif Nat.blt pc 14 then (bif Nat.beq pc 11 then some (.getfield 22, 3, 7, 0, 232, .null) else none) else
       (bif Nat.beq pc 14 then some (.iload_n 1, 1, 1, 0, 0, mj_u) else none))))) else
   (bif Nat.blt pc 26 then (bif Nat.blt pc 19 then (bif Nat.blt pc 16 then (bif Nat.beq pc 15 then some (.iload_n 3, 1, 3, 0, 0, mj_u) else none) else
      (bif Nat.beq pc 16 then some (.invokevirtual 53, 3, 27, 0, 710, mj_u) else none)) else
     (bif Nat.blt pc 21 then (bif Nat.beq pc 19 then some (.istore 4, 2, 4, 0, 0, mj_u) else none) else
      (bif Nat.blt pc 23 then (bif Nat.beq pc 21 then some (.iload 4, 2, 4, 0, 0, mj_u) else none) else
       (bif Nat.beq pc 23 then some (.ifCond .lt 41, 3, 64, 0, 0, mj_u) else none)))) else
    (bif Nat.blt pc 30 then (bif Nat.blt pc 27 then (bif Nat.beq pc 26 then some (.aload_n 0, 1, 0, 0, 0, mj_u) else none) else
      (bif Nat.beq pc 27 then some (.getfield 9, 3, 7, 1, 233, .null) else none)) else
     (bif Nat.blt pc 32 then (bif Nat.beq pc 30 then some (.iload 4, 2, 4, 0, 0, mj_u) else none) else
      (bif Nat.blt pc 33 then (bif Nat.beq pc 32 then some (.iaload, 1, 0, 0, 0, mj_u) else none) else
       (bif Nat.beq pc 33 then some (.aload_n 0, 1, 0, 0, 0, mj_u) else none)))))) else
  (bif Nat.blt pc 51 then (bif Nat.blt pc 42 then (bif Nat.blt pc 37 then (bif Nat.blt pc 36 then (bif Nat.beq pc 34 then some (.iload 4, 2, 4, 0, 0, mj_u) else none) else
      (bif Nat.beq pc 36 then some (.iload_n 1, 1, 1, 0, 0, mj_u) else none)) else
     (bif Nat.blt pc 38 then (bif Nat.beq pc 37 then some (.iload_n 3, 1, 3, 0, 0, mj_u) else none) else
      (bif Nat.blt pc 41 then (bif Nat.beq pc 38 then some (.invokevirtual 57, 3, 95, 0, 711, mj_u) else none) else
       (bif Nat.beq pc 41 then some (.iadd, 1, 0, 0, 0, mj_u) else none)))) else
    (bif Nat.blt pc 46 then (bif Nat.blt pc 43 then (bif Nat.beq pc 42 then some (.aload_n 0, 1, 0, 0, 0, mj_u) else none) else
      (bif Nat.beq pc 43 then some (.getfield 9, 3, 7, 1, 233, .null) else none)) else
     (bif Nat.blt pc 47 then (bif Nat.beq pc 46 then some (.iload_n 1, 1, 1, 0, 0, mj_u) else none) else
      (bif Nat.blt pc 48 then (bif Nat.beq pc 47 then some (.iaload, 1, 0, 0, 0, mj_u) else none) else
       (bif Nat.beq pc 48 then some (.if_icmp .ne 16, 3, 64, 0, 0, mj_u) else none))))) else
   (bif Nat.blt pc 61 then (bif Nat.blt pc 55 then (bif Nat.blt pc 52 then (bif Nat.beq pc 51 then some (.iload_n 2, 1, 2, 0, 0, mj_u) else none) else
      (bif Nat.beq pc 52 then some (.ifCond .lt 9, 3, 61, 0, 0, mj_u) else none)) else
     (bif Nat.blt pc 57 then (bif Nat.beq pc 55 then some (.iload 4, 2, 4, 0, 0, mj_u) else none) else
      (bif Nat.blt pc 58 then (bif Nat.beq pc 57 then some (.iload_n 2, 1, 2, 0, 0, mj_u) else none) else
       (bif Nat.beq pc 58 then some (.if_icmp .ge 6, 3, 64, 0, 0, mj_u) else none)))) else
    (bif Nat.blt pc 67 then (bif Nat.blt pc 63 then (bif Nat.beq pc 61 then some (.iload 4, 2, 4, 0, 0, mj_u) else none) else
      (bif Nat.blt pc 64 then (bif Nat.beq pc 63 then some (.istore_n 2, 1, 2, 0, 0, mj_u) else none) else
       (bif Nat.beq pc 64 then some (.iinc 3 1, 3, 3, 0, 0, .int 1) else none))) else
     (bif Nat.blt pc 70 then (bif Nat.beq pc 67 then some (.goto (-63), 3, 4, 0, 0, mj_u) else none) else
      (bif Nat.blt pc 71 then (bif Nat.beq pc 70 then some (.iload_n 2, 1, 2, 0, 0, mj_u) else none) else
       (bif Nat.beq pc 71 then some (.ireturn, 1, 0, 0, 0, mj_u) else none))))))
def m_Ways_fieldAhead : mj_M := (98, prog_9_method_6_code, 5, (Option.some Jvm.ClassFile.FieldType.int), 7, 1, 729, 728, 22, 34, 72, k_Ways_fieldAhead)
/-- WatershedMap.volumeWith(III)I -/
def k_W_volumeWith : Nat → Option mj_I := fun pc =>
  bif Nat.blt pc 31 then (bif Nat.blt pc 14 then (bif Nat.blt pc 6 then (bif Nat.blt pc 2 then (bif Nat.blt pc 1 then (bif Nat.beq pc 0 then some (.aload_n 0, 1, 0, 0, 0, mj_u) else none) else
      (bif Nat.beq pc 1 then some (.iload_n 1, 1, 1, 0, 0, mj_u) else none)) else
     (bif Nat.blt pc 3 then (bif Nat.beq pc 2 then some (.iload_n 2, 1, 2, 0, 0, mj_u) else none) else
      (bif Nat.beq pc 3 then some (.invokevirtual 72, 3, 17, 0, 369, mj_u) else none))) else
    (bif Nat.blt pc 8 then (bif Nat.blt pc 7 then (bif Nat.beq pc 6 then some (.iload_n 3, 1, 3, 0, 0, mj_u) else none) else
      (bif Nat.beq pc 7 then some (.iconst 0, 1, 0, 0, 0, .int 0) else none)) else
     (bif Nat.blt pc 11 then (bif Nat.beq pc 8 then some (.sipush 999, 3, 0, 0, 0, .int 999) else none) else
      (bif Nat.beq pc 11 then some (.invokestatic 65, 3, 15, 0, 295, mj_u) else none)))) else
   (bif Nat.blt pc 20 then (bif Nat.blt pc 18 then (bif Nat.blt pc 15 then (bif Nat.beq pc 14 then some (.aload_n 0, 1, 0, 0, 0, mj_u) else none) else
      (bif Nat.beq pc 15 then some (.getfield 10, 3, 8, 0, 266, .null) else none)) else
     (bif Nat.blt pc 19 then (bif Nat.beq pc 18 then some (.iload_n 1, 1, 1, 0, 0, mj_u) else none) else
      (bif Nat.beq pc 19 then some (.iload_n 2, 1, 2, 0, 0, mj_u) else none))) else
    (bif Nat.blt pc 25 then (bif Nat.blt pc 23 then (bif Nat.beq pc 20 then some (.invokevirtual 75, 3, 12, 0, 390, mj_u) else none) else
      (bif Nat.beq pc 23 then some (.istore 4, 2, 4, 0, 0, mj_u) else none)) else
     (bif Nat.blt pc 26 then (bif Nat.beq pc 25 then some (.aload_n 0, 1, 0, 0, 0, mj_u) else none) else
      (bif Nat.blt pc 29 then (bif Nat.beq pc 26 then some (.getfield 10, 3, 8, 0, 266, .null) else none) else
       (bif Nat.beq pc 29 then some (.iload 4, 2, 4, 0, 0, mj_u) else none)))))) else
  (bif Nat.blt pc 51 then (bif Nat.blt pc 38 then (bif Nat.blt pc 35 then (bif Nat.blt pc 32 then (bif Nat.beq pc 31 then some (.iload_n 3, 1, 3, 0, 0, mj_u) else none) else
      (bif Nat.beq pc 32 then some (.invokevirtual 79, 3, 18, 0, 391, mj_u) else none)) else
     (bif Nat.blt pc 37 then (bif Nat.beq pc 35 then some (.istore 5, 2, 5, 0, 0, mj_u) else none) else
      (bif Nat.beq pc 37 then some (.aload_n 0, 1, 0, 0, 0, mj_u) else none))) else
    (bif Nat.blt pc 44 then (bif Nat.blt pc 41 then (bif Nat.beq pc 38 then some (.getfield 28, 3, 8, 2, 268, .null) else none) else
      (bif Nat.beq pc 41 then some (.invokevirtual 108, 3, 42, 0, 487, mj_u) else none)) else
     (bif Nat.blt pc 45 then (bif Nat.beq pc 44 then some (.aload_n 0, 1, 0, 0, 0, mj_u) else none) else
      (bif Nat.blt pc 48 then (bif Nat.beq pc 45 then some (.getfield 28, 3, 8, 2, 268, .null) else none) else
       (bif Nat.beq pc 48 then some (.invokevirtual 148, 3, 75, 0, 624, mj_u) else none))))) else
   (bif Nat.blt pc 59 then (bif Nat.blt pc 54 then (bif Nat.blt pc 53 then (bif Nat.beq pc 51 then some (.istore 6, 2, 6, 0, 0, mj_u) else none) else
      (bif Nat.beq pc 53 then some (.aload_n 0, 1, 0, 0, 0, mj_u) else none)) else
     (bif Nat.blt pc 57 then (bif Nat.beq pc 54 then some (.getfield 10, 3, 8, 0, 266, .null) else none) else
      (bif Nat.beq pc 57 then some (.iload 4, 2, 4, 0, 0, mj_u) else none))) else
    (bif Nat.blt pc 64 then (bif Nat.blt pc 61 then (bif Nat.beq pc 59 then some (.iload 5, 2, 5, 0, 0, mj_u) else none) else
      (bif Nat.beq pc 61 then some (.invokevirtual 79, 3, 18, 0, 391, mj_u) else none)) else
     (bif Nat.blt pc 65 then (bif Nat.beq pc 64 then some (.pop, 1, 0, 0, 0, mj_u) else none) else
      (bif Nat.blt pc 67 then (bif Nat.beq pc 65 then some (.iload 6, 2, 6, 0, 0, mj_u) else none) else
       (bif Nat.beq pc 67 then some (.ireturn, 1, 0, 0, 0, mj_u) else none))))))
def m_W_volumeWith : mj_M := (99, prog_1_method_28_code, 7, (Option.some Jvm.ClassFile.FieldType.int), 8, 3, 733, 731, 732, 26, 68, k_W_volumeWith)
/-- WatershedMap.endsWith(III)I -/
def k_W_endsWith : Nat → Option mj_I := fun pc =>
  bif Nat.blt pc 67 then (bif Nat.blt pc 30 then (bif Nat.blt pc 14 then (bif Nat.blt pc 6 then (bif Nat.blt pc 2 then (bif Nat.blt pc 1 then (bif Nat.beq pc 0 then some (.aload_n 0, 1, 0, 0, 0, mj_u) else none) else
       (bif Nat.beq pc 1 then some (.iload_n 1, 1, 1, 0, 0, mj_u) else none)) else
      (bif Nat.blt pc 3 then (bif Nat.beq pc 2 then some (.iload_n 2, 1, 2, 0, 0, mj_u) else none) else
       (bif Nat.beq pc 3 then some (.invokevirtual 72, 3, 17, 0, 369, mj_u) else none))) else
     (bif Nat.blt pc 8 then (bif Nat.blt pc 7 then (bif Nat.beq pc 6 then some (.iload_n 3, 1, 3, 0, 0, mj_u) else none) else
       (bif Nat.beq pc 7 then some (.iconst 0, 1, 0, 0, 0, .int 0) else none)) else
      (bif Nat.blt pc 11 then (bif Nat.beq pc 8 then some (.sipush 999, 3, 0, 0, 0, .int 999) else none) else
       (bif Nat.beq pc 11 then some (.invokestatic 65, 3, 15, 0, 295, mj_u) else none)))) else
    (bif Nat.blt pc 20 then (bif Nat.blt pc 18 then (bif Nat.blt pc 15 then (bif Nat.beq pc 14 then some (.aload_n 0, 1, 0, 0, 0, mj_u) else none) else
       (bif Nat.beq pc 15 then some (.getfield 10, 3, 8, 0, 266, .null) else none)) else
      (bif Nat.blt pc 19 then (bif Nat.beq pc 18 then some (.iload_n 1, 1, 1, 0, 0, mj_u) else none) else
       (bif Nat.beq pc 19 then some (.iload_n 2, 1, 2, 0, 0, mj_u) else none))) else
     (bif Nat.blt pc 25 then (bif Nat.blt pc 23 then (bif Nat.beq pc 20 then some (.invokevirtual 75, 3, 12, 0, 390, mj_u) else none) else
       (bif Nat.beq pc 23 then some (.istore 4, 2, 4, 0, 0, mj_u) else none)) else
      (bif Nat.blt pc 26 then (bif Nat.beq pc 25 then some (.aload_n 0, 1, 0, 0, 0, mj_u) else none) else
       (bif Nat.blt pc 29 then (bif Nat.beq pc 26 then some (.getfield 21, 3, 8, 1, 267, .null) else none) else
        (bif Nat.beq pc 29 then some (.aload_n 0, 1, 0, 0, 0, mj_u) else none)))))) else
   (bif Nat.blt pc 48 then (bif Nat.blt pc 40 then (bif Nat.blt pc 36 then (bif Nat.blt pc 33 then (bif Nat.beq pc 30 then some (.getfield 57, 3, 8, 7, 273, .int 0) else none) else
       (bif Nat.beq pc 33 then some (.invokevirtual 100, 3, 29, 0, 435, mj_u) else none)) else
      (bif Nat.blt pc 37 then (bif Nat.beq pc 36 then some (.aload_n 0, 1, 0, 0, 0, mj_u) else none) else
       (bif Nat.beq pc 37 then some (.getfield 21, 3, 8, 1, 267, .null) else none))) else
     (bif Nat.blt pc 44 then (bif Nat.blt pc 43 then (bif Nat.beq pc 40 then some (.getfield 183, 3, 6, 4, 104, .null) else none) else
       (bif Nat.beq pc 43 then some (.iconst 0, 1, 0, 0, 0, .int 0) else none)) else
      (bif Nat.blt pc 45 then (bif Nat.beq pc 44 then some (.aload_n 0, 1, 0, 0, 0, mj_u) else none) else
       (bif Nat.beq pc 45 then some (.getfield 53, 3, 8, 6, 272, .null) else none)))) else
    (bif Nat.blt pc 56 then (bif Nat.blt pc 52 then (bif Nat.blt pc 49 then (bif Nat.beq pc 48 then some (.iconst 0, 1, 0, 0, 0, .int 0) else none) else
       (bif Nat.beq pc 49 then some (.sipush 256, 3, 0, 0, 0, .int 256) else none)) else
      (bif Nat.blt pc 55 then (bif Nat.beq pc 52 then some (.invokestatic 186, 3, 1001, 0, 738, mj_u) else none) else
       (bif Nat.beq pc 55 then some (.aload_n 0, 1, 0, 0, 0, mj_u) else none))) else
     (bif Nat.blt pc 61 then (bif Nat.blt pc 59 then (bif Nat.beq pc 56 then some (.getfield 10, 3, 8, 0, 266, .null) else none) else
       (bif Nat.beq pc 59 then some (.iload 4, 2, 4, 0, 0, mj_u) else none)) else
      (bif Nat.blt pc 62 then (bif Nat.beq pc 61 then some (.iload_n 3, 1, 3, 0, 0, mj_u) else none) else
       (bif Nat.blt pc 65 then (bif Nat.beq pc 62 then some (.invokevirtual 79, 3, 18, 0, 391, mj_u) else none) else
        (bif Nat.beq pc 65 then some (.istore 5, 2, 5, 0, 0, mj_u) else none))))))) else
  (bif Nat.blt pc 99 then (bif Nat.blt pc 84 then (bif Nat.blt pc 75 then (bif Nat.blt pc 71 then (bif Nat.blt pc 68 then (bif Nat.beq pc 67 then some (.aload_n 0, 1, 0, 0, 0, mj_u) else none) else
       (bif Nat.beq pc 68 then some (.getfield 21, 3, 8, 1, 267, .null) else none)) else
      (bif Nat.blt pc 72 then (bif Nat.beq pc 71 then some (.aload_n 0, 1, 0, 0, 0, mj_u) else none) else
       (bif Nat.beq pc 72 then some (.getfield 57, 3, 8, 7, 273, .int 0) else none))) else
     (bif Nat.blt pc 79 then (bif Nat.blt pc 78 then (bif Nat.beq pc 75 then some (.invokevirtual 100, 3, 29, 0, 435, mj_u) else none) else
       (bif Nat.beq pc 78 then some (.aload_n 0, 1, 0, 0, 0, mj_u) else none)) else
      (bif Nat.blt pc 82 then (bif Nat.beq pc 79 then some (.getfield 10, 3, 8, 0, 266, .null) else none) else
       (bif Nat.beq pc 82 then some (.iload 4, 2, 4, 0, 0, mj_u) else none)))) else
    (bif Nat.blt pc 91 then (bif Nat.blt pc 89 then (bif Nat.blt pc 86 then (bif Nat.beq pc 84 then some (.iload 5, 2, 5, 0, 0, mj_u) else none) else
       (bif Nat.beq pc 86 then some (.invokevirtual 79, 3, 18, 0, 391, mj_u) else none)) else
      (bif Nat.blt pc 90 then (bif Nat.beq pc 89 then some (.pop, 1, 0, 0, 0, mj_u) else none) else
       (bif Nat.beq pc 90 then some (.iconst 0, 1, 0, 0, 0, .int 0) else none))) else
     (bif Nat.blt pc 94 then (bif Nat.blt pc 93 then (bif Nat.beq pc 91 then some (.istore 6, 2, 6, 0, 0, mj_u) else none) else
       (bif Nat.beq pc 93 then some (.iconst 0, 1, 0, 0, 0, .int 0) else none)) else
      (bif Nat.blt pc 96 then (bif Nat.beq pc 94 then some (.istore 7, 2, 7, 0, 0, mj_u) else none) else
       (bif Nat.blt pc 98 then (bif Nat.beq pc 96 then some (.iload 7, 2, 7, 0, 0, mj_u) else none) else
        (bif Nat.beq pc 98 then some (.aload_n 0, 1, 0, 0, 0, mj_u) else none)))))) else
   (bif Nat.blt pc 119 then (bif Nat.blt pc 109 then (bif Nat.blt pc 105 then (bif Nat.blt pc 102 then (bif Nat.beq pc 99 then some (.getfield 10, 3, 8, 0, 266, .null) else none) else
       (bif Nat.beq pc 102 then some (.getfield 69, 3, 4, 5, 75, .int 0) else none)) else
      (bif Nat.blt pc 108 then (bif Nat.beq pc 105 then some (.if_icmp .ge 32, 3, 137, 0, 0, mj_u) else none) else
       (bif Nat.beq pc 108 then some (.aload_n 0, 1, 0, 0, 0, mj_u) else none))) else
     (bif Nat.blt pc 115 then (bif Nat.blt pc 112 then (bif Nat.beq pc 109 then some (.getfield 21, 3, 8, 1, 267, .null) else none) else
       (bif Nat.beq pc 112 then some (.getfield 183, 3, 6, 4, 104, .null) else none)) else
      (bif Nat.blt pc 117 then (bif Nat.beq pc 115 then some (.iload 7, 2, 7, 0, 0, mj_u) else none) else
       (bif Nat.blt pc 118 then (bif Nat.beq pc 117 then some (.iaload, 1, 0, 0, 0, mj_u) else none) else
        (bif Nat.beq pc 118 then some (.aload_n 0, 1, 0, 0, 0, mj_u) else none))))) else
    (bif Nat.blt pc 128 then (bif Nat.blt pc 124 then (bif Nat.blt pc 122 then (bif Nat.beq pc 119 then some (.getfield 53, 3, 8, 6, 272, .null) else none) else
       (bif Nat.beq pc 122 then some (.iload 7, 2, 7, 0, 0, mj_u) else none)) else
      (bif Nat.blt pc 125 then (bif Nat.beq pc 124 then some (.iaload, 1, 0, 0, 0, mj_u) else none) else
       (bif Nat.beq pc 125 then some (.if_icmp .eq 6, 3, 131, 0, 0, mj_u) else none))) else
     (bif Nat.blt pc 134 then (bif Nat.blt pc 131 then (bif Nat.beq pc 128 then some (.iinc 6 1, 3, 6, 0, 0, .int 1) else none) else
       (bif Nat.beq pc 131 then some (.iinc 7 1, 3, 7, 0, 0, .int 1) else none)) else
      (bif Nat.blt pc 137 then (bif Nat.beq pc 134 then some (.goto (-38), 3, 96, 0, 0, mj_u) else none) else
       (bif Nat.blt pc 139 then (bif Nat.beq pc 137 then some (.iload 6, 2, 6, 0, 0, mj_u) else none) else
        (bif Nat.beq pc 139 then some (.ireturn, 1, 0, 0, 0, mj_u) else none)))))))
def m_W_endsWith : mj_M := (100, prog_1_method_29_code, 8, (Option.some Jvm.ClassFile.FieldType.int), 8, 3, 737, 735, 736, 26, 140, k_W_endsWith)
/-- WatershedMap.lookout(II)I -/
def k_W_lookout : Nat → Option mj_I := fun pc =>
  bif Nat.blt pc 31 then (bif Nat.blt pc 15 then (bif Nat.blt pc 6 then (bif Nat.blt pc 2 then (bif Nat.blt pc 1 then (bif Nat.beq pc 0 then some (.aload_n 0, 1, 0, 0, 0, mj_u) else none) else
      (bif Nat.beq pc 1 then some (.iconst 0, 1, 0, 0, 0, .int 0) else none)) else
     (bif Nat.blt pc 3 then (bif Nat.beq pc 2 then some (.iload_n 1, 1, 1, 0, 0, mj_u) else none) else
      (bif Nat.beq pc 3 then some (.invokevirtual 72, 3, 17, 0, 369, mj_u) else none))) else
    (bif Nat.blt pc 8 then (bif Nat.blt pc 7 then (bif Nat.beq pc 6 then some (.iload_n 2, 1, 2, 0, 0, mj_u) else none) else
      (bif Nat.beq pc 7 then some (.iconst 0, 1, 0, 0, 0, .int 0) else none)) else
     (bif Nat.blt pc 11 then (bif Nat.beq pc 8 then some (.sipush 500, 3, 0, 0, 0, .int 500) else none) else
      (bif Nat.blt pc 14 then (bif Nat.beq pc 11 then some (.invokestatic 65, 3, 15, 0, 295, mj_u) else none) else
       (bif Nat.beq pc 14 then some (.iconst 0, 1, 0, 0, 0, .int 0) else none))))) else
   (bif Nat.blt pc 20 then (bif Nat.blt pc 17 then (bif Nat.blt pc 16 then (bif Nat.beq pc 15 then some (.istore_n 3, 1, 3, 0, 0, mj_u) else none) else
      (bif Nat.beq pc 16 then some (.iconst 0, 1, 0, 0, 0, .int 0) else none)) else
     (bif Nat.blt pc 19 then (bif Nat.beq pc 17 then some (.istore 4, 2, 4, 0, 0, mj_u) else none) else
      (bif Nat.beq pc 19 then some (.iconst 0, 1, 0, 0, 0, .int 0) else none))) else
    (bif Nat.blt pc 24 then (bif Nat.blt pc 22 then (bif Nat.beq pc 20 then some (.istore 5, 2, 5, 0, 0, mj_u) else none) else
      (bif Nat.beq pc 22 then some (.iload 5, 2, 5, 0, 0, mj_u) else none)) else
     (bif Nat.blt pc 25 then (bif Nat.beq pc 24 then some (.aload_n 0, 1, 0, 0, 0, mj_u) else none) else
      (bif Nat.blt pc 28 then (bif Nat.beq pc 25 then some (.getfield 10, 3, 8, 0, 266, .null) else none) else
       (bif Nat.beq pc 28 then some (.getfield 192, 3, 4, 3, 68, .int 0) else none)))))) else
  (bif Nat.blt pc 49 then (bif Nat.blt pc 40 then (bif Nat.blt pc 35 then (bif Nat.blt pc 34 then (bif Nat.beq pc 31 then some (.if_icmp .ge 36, 3, 67, 0, 0, mj_u) else none) else
      (bif Nat.beq pc 34 then some (.aload_n 0, 1, 0, 0, 0, mj_u) else none)) else
     (bif Nat.blt pc 38 then (bif Nat.beq pc 35 then some (.getfield 42, 3, 8, 4, 270, .null) else none) else
      (bif Nat.beq pc 38 then some (.iload 5, 2, 5, 0, 0, mj_u) else none))) else
    (bif Nat.blt pc 42 then (bif Nat.blt pc 41 then (bif Nat.beq pc 40 then some (.iload_n 1, 1, 1, 0, 0, mj_u) else none) else
      (bif Nat.beq pc 41 then some (.iload_n 2, 1, 2, 0, 0, mj_u) else none)) else
     (bif Nat.blt pc 45 then (bif Nat.beq pc 42 then some (.invokevirtual 159, 3, 91, 0, 688, mj_u) else none) else
      (bif Nat.blt pc 47 then (bif Nat.beq pc 45 then some (.istore 6, 2, 6, 0, 0, mj_u) else none) else
       (bif Nat.beq pc 47 then some (.iload 6, 2, 6, 0, 0, mj_u) else none))))) else
   (bif Nat.blt pc 60 then (bif Nat.blt pc 54 then (bif Nat.blt pc 51 then (bif Nat.beq pc 49 then some (.iload 4, 2, 4, 0, 0, mj_u) else none) else
      (bif Nat.beq pc 51 then some (.if_icmp .le 10, 3, 61, 0, 0, mj_u) else none)) else
     (bif Nat.blt pc 56 then (bif Nat.beq pc 54 then some (.iload 6, 2, 6, 0, 0, mj_u) else none) else
      (bif Nat.blt pc 58 then (bif Nat.beq pc 56 then some (.istore 4, 2, 4, 0, 0, mj_u) else none) else
       (bif Nat.beq pc 58 then some (.iload 5, 2, 5, 0, 0, mj_u) else none)))) else
    (bif Nat.blt pc 64 then (bif Nat.blt pc 61 then (bif Nat.beq pc 60 then some (.istore_n 3, 1, 3, 0, 0, mj_u) else none) else
      (bif Nat.beq pc 61 then some (.iinc 5 1, 3, 5, 0, 0, .int 1) else none)) else
     (bif Nat.blt pc 67 then (bif Nat.beq pc 64 then some (.goto (-42), 3, 22, 0, 0, mj_u) else none) else
      (bif Nat.blt pc 68 then (bif Nat.beq pc 67 then some (.iload_n 3, 1, 3, 0, 0, mj_u) else none) else
       (bif Nat.beq pc 68 then some (.ireturn, 1, 0, 0, 0, mj_u) else none))))))
def m_W_lookout : mj_M := (101, prog_1_method_30_code, 7, (Option.some Jvm.ClassFile.FieldType.int), 8, 2, 744, 742, 743, 26, 69, k_W_lookout)
/-- WatershedMap.digest()J -/
def k_W_digest : Nat → Option mj_I := fun pc =>
  bif Nat.blt pc 45 then (bif Nat.blt pc 25 then (bif Nat.blt pc 11 then (bif Nat.blt pc 4 then (bif Nat.blt pc 1 then (bif Nat.beq pc 0 then some (.aload_n 0, 1, 0, 0, 0, mj_u) else none) else
      (bif Nat.beq pc 1 then some (.getfield 21, 3, 8, 1, 267, .null) else none)) else
     (bif Nat.blt pc 5 then (bif Nat.beq pc 4 then some (.aload_n 0, 1, 0, 0, 0, mj_u) else none) else
      (bif Nat.blt pc 8 then (bif Nat.beq pc 5 then some (.getfield 57, 3, 8, 7, 273, .int 0) else none) else
       (bif Nat.beq pc 8 then some (.invokevirtual 100, 3, 29, 0, 435, mj_u) else none)))) else
    (bif Nat.blt pc 18 then (bif Nat.blt pc 12 then (bif Nat.beq pc 11 then some (.aload_n 0, 1, 0, 0, 0, mj_u) else none) else
      (bif Nat.blt pc 15 then (bif Nat.beq pc 12 then some (.getfield 28, 3, 8, 2, 268, .null) else none) else
       (bif Nat.beq pc 15 then some (.invokevirtual 108, 3, 42, 0, 487, mj_u) else none))) else
     (bif Nat.blt pc 19 then (bif Nat.beq pc 18 then some (.aload_n 0, 1, 0, 0, 0, mj_u) else none) else
      (bif Nat.blt pc 22 then (bif Nat.beq pc 19 then some (.ldc2_w 195, 3, 0, 0, 749, .long 58078) else none) else
       (bif Nat.beq pc 22 then some (.invokevirtual 197, 3, 103, 0, 750, mj_u) else none))))) else
   (bif Nat.blt pc 33 then (bif Nat.blt pc 28 then (bif Nat.blt pc 26 then (bif Nat.beq pc 25 then some (.lstore_n 1, 1, 1, 0, 0, mj_u) else none) else
      (bif Nat.blt pc 27 then (bif Nat.beq pc 26 then some (.iconst 0, 1, 0, 0, 0, .int 0) else none) else
       (bif Nat.beq pc 27 then some (.istore_n 3, 1, 3, 0, 0, mj_u) else none))) else
     (bif Nat.blt pc 29 then (bif Nat.beq pc 28 then some (.iload_n 3, 1, 3, 0, 0, mj_u) else none) else
      (bif Nat.blt pc 32 then (bif Nat.beq pc 29 then some (.getstatic 201, 3, 2, 0, 755, mj_u) else none) else
       (bif Nat.beq pc 32 then some (.arraylength, 1, 0, 0, 0, mj_u) else none)))) else
    (bif Nat.blt pc 40 then (bif Nat.blt pc 36 then (bif Nat.beq pc 33 then some (.if_icmp .ge 53, 3, 86, 0, 0, mj_u) else none) else
      (bif Nat.blt pc 37 then (bif Nat.beq pc 36 then some (.aload_n 0, 1, 0, 0, 0, mj_u) else none) else
       (bif Nat.beq pc 37 then some (.getfield 35, 3, 8, 3, 269, .null) else none))) else
     (bif Nat.blt pc 43 then (bif Nat.beq pc 40 then some (.getstatic 201, 3, 2, 0, 755, mj_u) else none) else
      (bif Nat.blt pc 44 then (bif Nat.beq pc 43 then some (.iload_n 3, 1, 3, 0, 0, mj_u) else none) else
       (bif Nat.beq pc 44 then some (.iaload, 1, 0, 0, 0, mj_u) else none)))))) else
  (bif Nat.blt pc 68 then (bif Nat.blt pc 57 then (bif Nat.blt pc 51 then (bif Nat.blt pc 48 then (bif Nat.beq pc 45 then some (.invokevirtual 151, 3, 77, 0, 632, mj_u) else none) else
      (bif Nat.blt pc 49 then (bif Nat.beq pc 48 then some (.iconst 0, 1, 0, 0, 0, .int 0) else none) else
       (bif Nat.beq pc 49 then some (.istore 4, 2, 4, 0, 0, mj_u) else none))) else
     (bif Nat.blt pc 53 then (bif Nat.beq pc 51 then some (.iload 4, 2, 4, 0, 0, mj_u) else none) else
      (bif Nat.blt pc 54 then (bif Nat.beq pc 53 then some (.iconst 2, 1, 0, 0, 0, .int 2) else none) else
       (bif Nat.beq pc 54 then some (.if_icmp .gt 26, 3, 80, 0, 0, mj_u) else none)))) else
    (bif Nat.blt pc 62 then (bif Nat.blt pc 58 then (bif Nat.beq pc 57 then some (.lload_n 1, 1, 1, 0, 0, mj_u) else none) else
      (bif Nat.blt pc 61 then (bif Nat.beq pc 58 then some (.ldc2_w 204, 3, 0, 0, 754, .long 31) else none) else
       (bif Nat.beq pc 61 then some (.lmul, 1, 0, 0, 0, mj_u) else none))) else
     (bif Nat.blt pc 63 then (bif Nat.beq pc 62 then some (.aload_n 0, 1, 0, 0, 0, mj_u) else none) else
      (bif Nat.blt pc 66 then (bif Nat.beq pc 63 then some (.getfield 35, 3, 8, 3, 269, .null) else none) else
       (bif Nat.beq pc 66 then some (.iload 4, 2, 4, 0, 0, mj_u) else none))))) else
   (bif Nat.blt pc 80 then (bif Nat.blt pc 73 then (bif Nat.blt pc 71 then (bif Nat.beq pc 68 then some (.invokevirtual 154, 3, 84, 0, 662, mj_u) else none) else
      (bif Nat.blt pc 72 then (bif Nat.beq pc 71 then some (.i2l, 1, 0, 0, 0, mj_u) else none) else
       (bif Nat.beq pc 72 then some (.ladd, 1, 0, 0, 0, mj_u) else none))) else
     (bif Nat.blt pc 74 then (bif Nat.beq pc 73 then some (.lstore_n 1, 1, 1, 0, 0, mj_u) else none) else
      (bif Nat.blt pc 77 then (bif Nat.beq pc 74 then some (.iinc 4 1, 3, 4, 0, 0, .int 1) else none) else
       (bif Nat.beq pc 77 then some (.goto (-26), 3, 51, 0, 0, mj_u) else none)))) else
    (bif Nat.blt pc 87 then (bif Nat.blt pc 83 then (bif Nat.beq pc 80 then some (.iinc 3 1, 3, 3, 0, 0, .int 1) else none) else
      (bif Nat.blt pc 86 then (bif Nat.beq pc 83 then some (.goto (-55), 3, 28, 0, 0, mj_u) else none) else
       (bif Nat.beq pc 86 then some (.aload_n 0, 1, 0, 0, 0, mj_u) else none))) else
     (bif Nat.blt pc 88 then (bif Nat.beq pc 87 then some (.lload_n 1, 1, 1, 0, 0, mj_u) else none) else
      (bif Nat.blt pc 91 then (bif Nat.beq pc 88 then some (.invokevirtual 206, 3, 104, 0, 757, mj_u) else none) else
       (bif Nat.beq pc 91 then some (.lreturn, 1, 0, 0, 0, mj_u) else none))))))
def m_W_digest : mj_M := (102, prog_1_method_31_code, 5, (Option.some Jvm.ClassFile.FieldType.long), 8, 0, 748, 746, 747, 26, 92, k_W_digest)
/-- WatershedMap.digestOfMap(J)J -/
def k_W_digestOfMap : Nat → Option mj_I := fun pc =>
  bif Nat.blt pc 77 then (bif Nat.blt pc 38 then (bif Nat.blt pc 16 then (bif Nat.blt pc 7 then (bif Nat.blt pc 2 then (bif Nat.blt pc 1 then (bif Nat.beq pc 0 then some (.lload_n 1, 1, 1, 0, 0, mj_u) else none) else
       (bif Nat.beq pc 1 then some (.lstore_n 3, 1, 3, 0, 0, mj_u) else none)) else
      (bif Nat.blt pc 3 then (bif Nat.beq pc 2 then some (.iconst 0, 1, 0, 0, 0, .int 0) else none) else
       (bif Nat.blt pc 5 then (bif Nat.beq pc 3 then some (.istore 5, 2, 5, 0, 0, mj_u) else none) else
        (bif Nat.beq pc 5 then some (.iload 5, 2, 5, 0, 0, mj_u) else none)))) else
     (bif Nat.blt pc 11 then (bif Nat.blt pc 8 then (bif Nat.beq pc 7 then some (.iconst 4, 1, 0, 0, 0, .int 4) else none) else
       (bif Nat.beq pc 8 then some (.if_icmp .gt 26, 3, 34, 0, 0, mj_u) else none)) else
      (bif Nat.blt pc 12 then (bif Nat.beq pc 11 then some (.lload_n 3, 1, 3, 0, 0, mj_u) else none) else
       (bif Nat.blt pc 15 then (bif Nat.beq pc 12 then some (.ldc2_w 204, 3, 0, 0, 754, .long 31) else none) else
        (bif Nat.beq pc 15 then some (.lmul, 1, 0, 0, 0, mj_u) else none))))) else
    (bif Nat.blt pc 26 then (bif Nat.blt pc 20 then (bif Nat.blt pc 17 then (bif Nat.beq pc 16 then some (.aload_n 0, 1, 0, 0, 0, mj_u) else none) else
       (bif Nat.beq pc 17 then some (.getfield 10, 3, 8, 0, 266, .null) else none)) else
      (bif Nat.blt pc 22 then (bif Nat.beq pc 20 then some (.iload 5, 2, 5, 0, 0, mj_u) else none) else
       (bif Nat.blt pc 25 then (bif Nat.beq pc 22 then some (.invokevirtual 118, 3, 57, 0, 550, mj_u) else none) else
        (bif Nat.beq pc 25 then some (.i2l, 1, 0, 0, 0, mj_u) else none)))) else
     (bif Nat.blt pc 31 then (bif Nat.blt pc 27 then (bif Nat.beq pc 26 then some (.ladd, 1, 0, 0, 0, mj_u) else none) else
       (bif Nat.blt pc 28 then (bif Nat.beq pc 27 then some (.lstore_n 3, 1, 3, 0, 0, mj_u) else none) else
        (bif Nat.beq pc 28 then some (.iinc 5 1, 3, 5, 0, 0, .int 1) else none))) else
      (bif Nat.blt pc 34 then (bif Nat.beq pc 31 then some (.goto (-26), 3, 5, 0, 0, mj_u) else none) else
       (bif Nat.blt pc 35 then (bif Nat.beq pc 34 then some (.lload_n 3, 1, 3, 0, 0, mj_u) else none) else
        (bif Nat.beq pc 35 then some (.ldc2_w 204, 3, 0, 0, 754, .long 31) else none)))))) else
   (bif Nat.blt pc 59 then (bif Nat.blt pc 48 then (bif Nat.blt pc 40 then (bif Nat.blt pc 39 then (bif Nat.beq pc 38 then some (.lmul, 1, 0, 0, 0, mj_u) else none) else
       (bif Nat.beq pc 39 then some (.aload_n 0, 1, 0, 0, 0, mj_u) else none)) else
      (bif Nat.blt pc 43 then (bif Nat.beq pc 40 then some (.getfield 21, 3, 8, 1, 267, .null) else none) else
       (bif Nat.blt pc 45 then (bif Nat.beq pc 43 then some (.bipush 8, 2, 0, 0, 0, .int 8) else none) else
        (bif Nat.beq pc 45 then some (.invokevirtual 127, 3, 64, 0, 579, mj_u) else none)))) else
     (bif Nat.blt pc 51 then (bif Nat.blt pc 49 then (bif Nat.beq pc 48 then some (.i2l, 1, 0, 0, 0, mj_u) else none) else
       (bif Nat.blt pc 50 then (bif Nat.beq pc 49 then some (.ladd, 1, 0, 0, 0, mj_u) else none) else
        (bif Nat.beq pc 50 then some (.aload_n 0, 1, 0, 0, 0, mj_u) else none))) else
      (bif Nat.blt pc 54 then (bif Nat.beq pc 51 then some (.getfield 21, 3, 8, 1, 267, .null) else none) else
       (bif Nat.blt pc 56 then (bif Nat.beq pc 54 then some (.bipush 9, 2, 0, 0, 0, .int 9) else none) else
        (bif Nat.beq pc 56 then some (.invokevirtual 127, 3, 64, 0, 579, mj_u) else none))))) else
    (bif Nat.blt pc 66 then (bif Nat.blt pc 61 then (bif Nat.blt pc 60 then (bif Nat.beq pc 59 then some (.i2l, 1, 0, 0, 0, mj_u) else none) else
       (bif Nat.beq pc 60 then some (.ladd, 1, 0, 0, 0, mj_u) else none)) else
      (bif Nat.blt pc 62 then (bif Nat.beq pc 61 then some (.lstore_n 3, 1, 3, 0, 0, mj_u) else none) else
       (bif Nat.blt pc 63 then (bif Nat.beq pc 62 then some (.lload_n 3, 1, 3, 0, 0, mj_u) else none) else
        (bif Nat.beq pc 63 then some (.ldc2_w 204, 3, 0, 0, 754, .long 31) else none)))) else
     (bif Nat.blt pc 71 then (bif Nat.blt pc 67 then (bif Nat.beq pc 66 then some (.lmul, 1, 0, 0, 0, mj_u) else none) else
       (bif Nat.blt pc 68 then (bif Nat.beq pc 67 then some (.aload_n 0, 1, 0, 0, 0, mj_u) else none) else
        (bif Nat.beq pc 68 then some (.getfield 21, 3, 8, 1, 267, .null) else none))) else
      (bif Nat.blt pc 73 then (bif Nat.beq pc 71 then some (.bipush 9, 2, 0, 0, 0, .int 9) else none) else
       (bif Nat.blt pc 76 then (bif Nat.beq pc 73 then some (.invokevirtual 127, 3, 64, 0, 579, mj_u) else none) else
        (bif Nat.beq pc 76 then some (.i2l, 1, 0, 0, 0, mj_u) else none))))))) else
  (bif Nat.blt pc 117 then (bif Nat.blt pc 98 then (bif Nat.blt pc 84 then (bif Nat.blt pc 79 then (bif Nat.blt pc 78 then (bif Nat.beq pc 77 then some (.ladd, 1, 0, 0, 0, mj_u) else none) else
       (bif Nat.beq pc 78 then some (.lstore_n 3, 1, 3, 0, 0, mj_u) else none)) else
      (bif Nat.blt pc 80 then (bif Nat.beq pc 79 then some (.lload_n 3, 1, 3, 0, 0, mj_u) else none) else
       (bif Nat.blt pc 83 then (bif Nat.beq pc 80 then some (.ldc2_w 204, 3, 0, 0, 754, .long 31) else none) else
        (bif Nat.beq pc 83 then some (.lmul, 1, 0, 0, 0, mj_u) else none)))) else
     (bif Nat.blt pc 89 then (bif Nat.blt pc 85 then (bif Nat.beq pc 84 then some (.aload_n 0, 1, 0, 0, 0, mj_u) else none) else
       (bif Nat.blt pc 88 then (bif Nat.beq pc 85 then some (.getfield 21, 3, 8, 1, 267, .null) else none) else
        (bif Nat.beq pc 88 then some (.aload_n 0, 1, 0, 0, 0, mj_u) else none))) else
      (bif Nat.blt pc 92 then (bif Nat.beq pc 89 then some (.getfield 21, 3, 8, 1, 267, .null) else none) else
       (bif Nat.blt pc 95 then (bif Nat.beq pc 92 then some (.getfield 130, 3, 6, 6, 107, .null) else none) else
        (bif Nat.beq pc 95 then some (.invokevirtual 133, 3, 67, 0, 591, mj_u) else none))))) else
    (bif Nat.blt pc 105 then (bif Nat.blt pc 100 then (bif Nat.blt pc 99 then (bif Nat.beq pc 98 then some (.i2l, 1, 0, 0, 0, mj_u) else none) else
       (bif Nat.beq pc 99 then some (.ladd, 1, 0, 0, 0, mj_u) else none)) else
      (bif Nat.blt pc 101 then (bif Nat.beq pc 100 then some (.lstore_n 3, 1, 3, 0, 0, mj_u) else none) else
       (bif Nat.blt pc 102 then (bif Nat.beq pc 101 then some (.lload_n 3, 1, 3, 0, 0, mj_u) else none) else
        (bif Nat.beq pc 102 then some (.ldc2_w 204, 3, 0, 0, 754, .long 31) else none)))) else
     (bif Nat.blt pc 110 then (bif Nat.blt pc 106 then (bif Nat.beq pc 105 then some (.lmul, 1, 0, 0, 0, mj_u) else none) else
       (bif Nat.blt pc 107 then (bif Nat.beq pc 106 then some (.aload_n 0, 1, 0, 0, 0, mj_u) else none) else
        (bif Nat.beq pc 107 then some (.getfield 21, 3, 8, 1, 267, .null) else none))) else
      (bif Nat.blt pc 111 then (bif Nat.beq pc 110 then some (.aload_n 0, 1, 0, 0, 0, mj_u) else none) else
       (bif Nat.blt pc 114 then (bif Nat.beq pc 111 then some (.getfield 21, 3, 8, 1, 267, .null) else none) else
        (bif Nat.beq pc 114 then some (.getfield 136, 3, 6, 7, 109, .null) else none)))))) else
   (bif Nat.blt pc 136 then (bif Nat.blt pc 124 then (bif Nat.blt pc 121 then (bif Nat.blt pc 120 then (bif Nat.beq pc 117 then some (.invokevirtual 133, 3, 67, 0, 591, mj_u) else none) else
       (bif Nat.beq pc 120 then some (.i2l, 1, 0, 0, 0, mj_u) else none)) else
      (bif Nat.blt pc 122 then (bif Nat.beq pc 121 then some (.ladd, 1, 0, 0, 0, mj_u) else none) else
       (bif Nat.blt pc 123 then (bif Nat.beq pc 122 then some (.lstore_n 3, 1, 3, 0, 0, mj_u) else none) else
        (bif Nat.beq pc 123 then some (.lload_n 3, 1, 3, 0, 0, mj_u) else none)))) else
     (bif Nat.blt pc 129 then (bif Nat.blt pc 127 then (bif Nat.beq pc 124 then some (.ldc2_w 204, 3, 0, 0, 754, .long 31) else none) else
       (bif Nat.blt pc 128 then (bif Nat.beq pc 127 then some (.lmul, 1, 0, 0, 0, mj_u) else none) else
        (bif Nat.beq pc 128 then some (.aload_n 0, 1, 0, 0, 0, mj_u) else none))) else
      (bif Nat.blt pc 132 then (bif Nat.beq pc 129 then some (.getfield 28, 3, 8, 2, 268, .null) else none) else
       (bif Nat.blt pc 135 then (bif Nat.beq pc 132 then some (.getfield 139, 3, 3, 4, 175, .int 0) else none) else
        (bif Nat.beq pc 135 then some (.i2l, 1, 0, 0, 0, mj_u) else none))))) else
    (bif Nat.blt pc 143 then (bif Nat.blt pc 138 then (bif Nat.blt pc 137 then (bif Nat.beq pc 136 then some (.ladd, 1, 0, 0, 0, mj_u) else none) else
       (bif Nat.beq pc 137 then some (.lstore_n 3, 1, 3, 0, 0, mj_u) else none)) else
      (bif Nat.blt pc 139 then (bif Nat.beq pc 138 then some (.lload_n 3, 1, 3, 0, 0, mj_u) else none) else
       (bif Nat.blt pc 142 then (bif Nat.beq pc 139 then some (.ldc2_w 204, 3, 0, 0, 754, .long 31) else none) else
        (bif Nat.beq pc 142 then some (.lmul, 1, 0, 0, 0, mj_u) else none)))) else
     (bif Nat.blt pc 150 then (bif Nat.blt pc 144 then (bif Nat.beq pc 143 then some (.aload_n 0, 1, 0, 0, 0, mj_u) else none) else
       (bif Nat.blt pc 147 then (bif Nat.beq pc 144 then some (.getfield 28, 3, 8, 2, 268, .null) else none) else
        (bif Nat.beq pc 147 then some (.invokevirtual 148, 3, 75, 0, 624, mj_u) else none))) else
      (bif Nat.blt pc 151 then (bif Nat.beq pc 150 then some (.i2l, 1, 0, 0, 0, mj_u) else none) else
       (bif Nat.blt pc 152 then (bif Nat.beq pc 151 then some (.ladd, 1, 0, 0, 0, mj_u) else none) else
        (bif Nat.beq pc 152 then some (.lreturn, 1, 0, 0, 0, mj_u) else none)))))))
def m_W_digestOfMap : mj_M := (103, prog_1_method_32_code, 6, (Option.some Jvm.ClassFile.FieldType.long), 8, 1, 753, 752, 23, 26, 153, k_W_digestOfMap)
/-- WatershedMap.digestOfFields(J)J -/
def k_W_digestOfFields : Nat → Option mj_I := fun pc =>
  bif Nat.blt pc 45 then (bif Nat.blt pc 23 then (bif Nat.blt pc 8 then (bif Nat.blt pc 3 then (bif Nat.blt pc 1 then (bif Nat.beq pc 0 then some (.lload_n 1, 1, 1, 0, 0, mj_u) else none) else
      (bif Nat.blt pc 2 then (bif Nat.beq pc 1 then some (.lstore_n 3, 1, 3, 0, 0, mj_u) else none) else
       (bif Nat.beq pc 2 then some (.iconst 0, 1, 0, 0, 0, .int 0) else none))) else
     (bif Nat.blt pc 5 then (bif Nat.beq pc 3 then some (.istore 5, 2, 5, 0, 0, mj_u) else none) else
      (bif Nat.blt pc 7 then (bif Nat.beq pc 5 then some (.iload 5, 2, 5, 0, 0, mj_u) else none) else
       (bif Nat.beq pc 7 then some (.aload_n 0, 1, 0, 0, 0, mj_u) else none)))) else
    (bif Nat.blt pc 17 then (bif Nat.blt pc 11 then (bif Nat.beq pc 8 then some (.getfield 10, 3, 8, 0, 266, .null) else none) else
      (bif Nat.blt pc 14 then (bif Nat.beq pc 11 then some (.getfield 69, 3, 4, 5, 75, .int 0) else none) else
       (bif Nat.beq pc 14 then some (.if_icmp .ge 79, 3, 93, 0, 0, mj_u) else none))) else
     (bif Nat.blt pc 21 then (bif Nat.blt pc 18 then (bif Nat.beq pc 17 then some (.lload_n 3, 1, 3, 0, 0, mj_u) else none) else
       (bif Nat.beq pc 18 then some (.ldc2_w 204, 3, 0, 0, 754, .long 31) else none)) else
      (bif Nat.blt pc 22 then (bif Nat.beq pc 21 then some (.lmul, 1, 0, 0, 0, mj_u) else none) else
       (bif Nat.beq pc 22 then some (.aload_n 0, 1, 0, 0, 0, mj_u) else none))))) else
   (bif Nat.blt pc 34 then (bif Nat.blt pc 31 then (bif Nat.blt pc 26 then (bif Nat.beq pc 23 then some (.getfield 10, 3, 8, 0, 266, .null) else none) else
      (bif Nat.blt pc 29 then (bif Nat.beq pc 26 then some (.getfield 122, 3, 4, 0, 62, .null) else none) else
       (bif Nat.beq pc 29 then some (.iload 5, 2, 5, 0, 0, mj_u) else none))) else
     (bif Nat.blt pc 32 then (bif Nat.beq pc 31 then some (.iaload, 1, 0, 0, 0, mj_u) else none) else
      (bif Nat.blt pc 33 then (bif Nat.beq pc 32 then some (.i2l, 1, 0, 0, 0, mj_u) else none) else
       (bif Nat.beq pc 33 then some (.ladd, 1, 0, 0, 0, mj_u) else none)))) else
    (bif Nat.blt pc 38 then (bif Nat.blt pc 35 then (bif Nat.beq pc 34 then some (.lstore_n 3, 1, 3, 0, 0, mj_u) else none) else
      (bif Nat.blt pc 36 then (bif Nat.beq pc 35 then some (.iconst 0, 1, 0, 0, 0, .int 0) else none) else
       (bif Nat.beq pc 36 then some (.istore 6, 2, 6, 0, 0, mj_u) else none))) else
     (bif Nat.blt pc 41 then (bif Nat.blt pc 40 then (bif Nat.beq pc 38 then some (.iload 6, 2, 6, 0, 0, mj_u) else none) else
       (bif Nat.beq pc 40 then some (.iconst 4, 1, 0, 0, 0, .int 4) else none)) else
      (bif Nat.blt pc 44 then (bif Nat.beq pc 41 then some (.if_icmp .gt 28, 3, 69, 0, 0, mj_u) else none) else
       (bif Nat.beq pc 44 then some (.lload_n 3, 1, 3, 0, 0, mj_u) else none)))))) else
  (bif Nat.blt pc 70 then (bif Nat.blt pc 57 then (bif Nat.blt pc 50 then (bif Nat.blt pc 48 then (bif Nat.beq pc 45 then some (.ldc2_w 204, 3, 0, 0, 754, .long 31) else none) else
      (bif Nat.blt pc 49 then (bif Nat.beq pc 48 then some (.lmul, 1, 0, 0, 0, mj_u) else none) else
       (bif Nat.beq pc 49 then some (.aload_n 0, 1, 0, 0, 0, mj_u) else none))) else
     (bif Nat.blt pc 53 then (bif Nat.beq pc 50 then some (.getfield 21, 3, 8, 1, 267, .null) else none) else
      (bif Nat.blt pc 55 then (bif Nat.beq pc 53 then some (.iload 5, 2, 5, 0, 0, mj_u) else none) else
       (bif Nat.beq pc 55 then some (.iload 6, 2, 6, 0, 0, mj_u) else none)))) else
    (bif Nat.blt pc 62 then (bif Nat.blt pc 60 then (bif Nat.beq pc 57 then some (.invokevirtual 125, 3, 62, 0, 571, mj_u) else none) else
      (bif Nat.blt pc 61 then (bif Nat.beq pc 60 then some (.i2l, 1, 0, 0, 0, mj_u) else none) else
       (bif Nat.beq pc 61 then some (.ladd, 1, 0, 0, 0, mj_u) else none))) else
     (bif Nat.blt pc 66 then (bif Nat.blt pc 63 then (bif Nat.beq pc 62 then some (.lstore_n 3, 1, 3, 0, 0, mj_u) else none) else
       (bif Nat.beq pc 63 then some (.iinc 6 1, 3, 6, 0, 0, .int 1) else none)) else
      (bif Nat.blt pc 69 then (bif Nat.beq pc 66 then some (.goto (-28), 3, 38, 0, 0, mj_u) else none) else
       (bif Nat.beq pc 69 then some (.lload_n 3, 1, 3, 0, 0, mj_u) else none))))) else
   (bif Nat.blt pc 84 then (bif Nat.blt pc 75 then (bif Nat.blt pc 73 then (bif Nat.beq pc 70 then some (.ldc2_w 204, 3, 0, 0, 754, .long 31) else none) else
      (bif Nat.blt pc 74 then (bif Nat.beq pc 73 then some (.lmul, 1, 0, 0, 0, mj_u) else none) else
       (bif Nat.beq pc 74 then some (.aload_n 0, 1, 0, 0, 0, mj_u) else none))) else
     (bif Nat.blt pc 81 then (bif Nat.blt pc 78 then (bif Nat.beq pc 75 then some (.getfield 28, 3, 8, 2, 268, .null) else none) else
       (bif Nat.beq pc 78 then some (.getfield 111, 3, 3, 1, 171, .null) else none)) else
      (bif Nat.blt pc 83 then (bif Nat.beq pc 81 then some (.iload 5, 2, 5, 0, 0, mj_u) else none) else
       (bif Nat.beq pc 83 then some (.iaload, 1, 0, 0, 0, mj_u) else none)))) else
    (bif Nat.blt pc 87 then (bif Nat.blt pc 85 then (bif Nat.beq pc 84 then some (.i2l, 1, 0, 0, 0, mj_u) else none) else
      (bif Nat.blt pc 86 then (bif Nat.beq pc 85 then some (.ladd, 1, 0, 0, 0, mj_u) else none) else
       (bif Nat.beq pc 86 then some (.lstore_n 3, 1, 3, 0, 0, mj_u) else none))) else
     (bif Nat.blt pc 93 then (bif Nat.blt pc 90 then (bif Nat.beq pc 87 then some (.iinc 5 1, 3, 5, 0, 0, .int 1) else none) else
       (bif Nat.beq pc 90 then some (.goto (-85), 3, 5, 0, 0, mj_u) else none)) else
      (bif Nat.blt pc 94 then (bif Nat.beq pc 93 then some (.lload_n 3, 1, 3, 0, 0, mj_u) else none) else
       (bif Nat.beq pc 94 then some (.lreturn, 1, 0, 0, 0, mj_u) else none))))))
def m_W_digestOfFields : mj_M := (104, prog_1_method_33_code, 7, (Option.some Jvm.ClassFile.FieldType.long), 8, 1, 760, 759, 24, 26, 95, k_W_digestOfFields)
/-- WatershedMapLaw.below(II)I static -/
def k_WatershedMapLaw_below : Nat → Option mj_I := fun pc =>
  bif Nat.blt pc 4 then (bif Nat.blt pc 1 then (bif Nat.beq pc 0 then some (.iload_n 0, 1, 0, 0, 0, mj_u) else none) else
   (bif Nat.blt pc 3 then (bif Nat.beq pc 1 then some (.ldc 7, 2, 0, 0, 764, .int 2147483647) else none) else
    (bif Nat.beq pc 3 then some (.iand, 1, 0, 0, 0, mj_u) else none))) else
  (bif Nat.blt pc 5 then (bif Nat.beq pc 4 then some (.iload_n 1, 1, 1, 0, 0, mj_u) else none) else
   (bif Nat.blt pc 6 then (bif Nat.beq pc 5 then some (.irem, 1, 0, 0, 0, mj_u) else none) else
    (bif Nat.beq pc 6 then some (.ireturn, 1, 0, 0, 0, mj_u) else none)))
def m_WatershedMapLaw_below : mj_M := (105, method_2_code, 2, (Option.some Jvm.ClassFile.FieldType.int), 11, 2, 763, 762, 0, 25, 7, k_WatershedMapLaw_below)
/-- WatershedMapLaw.cell([II)I static -/
def k_WatershedMapLaw_cell : Nat → Option mj_I := fun pc =>
  bif Nat.blt pc 9 then (bif Nat.blt pc 3 then (bif Nat.blt pc 1 then (bif Nat.beq pc 0 then some (.iload_n 1, 1, 1, 0, 0, mj_u) else none) else
    (bif Nat.blt pc 2 then (bif Nat.beq pc 1 then some (.aload_n 0, 1, 0, 0, 0, mj_u) else none) else
     (bif Nat.beq pc 2 then some (.arraylength, 1, 0, 0, 0, mj_u) else none))) else
   (bif Nat.blt pc 7 then (bif Nat.blt pc 6 then (bif Nat.beq pc 3 then some (.if_icmp .ge 9, 3, 12, 0, 0, mj_u) else none) else
     (bif Nat.beq pc 6 then some (.aload_n 0, 1, 0, 0, 0, mj_u) else none)) else
    (bif Nat.blt pc 8 then (bif Nat.beq pc 7 then some (.iload_n 1, 1, 1, 0, 0, mj_u) else none) else
     (bif Nat.beq pc 8 then some (.iaload, 1, 0, 0, 0, mj_u) else none)))) else
  (bif Nat.blt pc 15 then (bif Nat.blt pc 12 then (bif Nat.beq pc 9 then some (.goto 9, 3, 18, 0, 0, mj_u) else none) else
    (bif Nat.blt pc 14 then (bif Nat.beq pc 12 then some (.ldc 8, 2, 0, 0, 768, .int 790386105) else none) else
     (bif Nat.beq pc 14 then some (.iload_n 1, 1, 1, 0, 0, mj_u) else none))) else
   (bif Nat.blt pc 17 then (bif Nat.blt pc 16 then (bif Nat.beq pc 15 then some (.iconst 3, 1, 0, 0, 0, .int 3) else none) else
     (bif Nat.beq pc 16 then some (.iadd, 1, 0, 0, 0, mj_u) else none)) else
    (bif Nat.blt pc 18 then (bif Nat.beq pc 17 then some (.imul, 1, 0, 0, 0, mj_u) else none) else
     (bif Nat.beq pc 18 then some (.ireturn, 1, 0, 0, 0, mj_u) else none))))
def m_WatershedMapLaw_cell : mj_M := (106, method_3_code, 2, (Option.some Jvm.ClassFile.FieldType.int), 11, 2, 767, 766, 0, 25, 19, k_WatershedMapLaw_cell)
