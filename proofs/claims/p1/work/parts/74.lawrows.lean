/-! rows of the law and of its wrappers -/
def k_L_reset : Nat → Option mj_I := fun pc =>
  bif Nat.blt pc 9 then (bif Nat.blt pc 3 then (bif Nat.blt pc 1 then (bif Nat.beq pc 0 then some (.aload_n 3, 1, 3, 0, 0, mj_u) else none) else
    (bif Nat.blt pc 2 then (bif Nat.beq pc 1 then some (.iconst 0, 1, 0, 0, 0, .int 0) else none) else
     (bif Nat.beq pc 2 then some (.aload_n 0, 1, 0, 0, 0, mj_u) else none))) else
   (bif Nat.blt pc 5 then (bif Nat.blt pc 4 then (bif Nat.beq pc 3 then some (.iload_n 1, 1, 1, 0, 0, mj_u) else none) else
     (bif Nat.beq pc 4 then some (.iload_n 2, 1, 2, 0, 0, mj_u) else none)) else
    (bif Nat.blt pc 8 then (bif Nat.beq pc 5 then some (.invokevirtual 7, 3, 72, 0, 565, mj_u) else none) else
     (bif Nat.beq pc 8 then some (.i2l, 1, 0, 0, 0, mj_u) else none)))) else
  (bif Nat.blt pc 15 then (bif Nat.blt pc 10 then (bif Nat.beq pc 9 then some (.lastore, 1, 0, 0, 0, mj_u) else none) else
    (bif Nat.blt pc 13 then (bif Nat.beq pc 10 then some (.goto 7, 3, 17, 0, 0, mj_u) else none) else
     (bif Nat.beq pc 13 then some (.astore 4, 2, 4, 0, 0, mj_u) else none))) else
   (bif Nat.blt pc 17 then (bif Nat.blt pc 16 then (bif Nat.beq pc 15 then some (.iconst 1, 1, 0, 0, 0, .int 1) else none) else
     (bif Nat.beq pc 16 then some (.ireturn, 1, 0, 0, 0, mj_u) else none)) else
    (bif Nat.blt pc 18 then (bif Nat.beq pc 17 then some (.iconst 0, 1, 0, 0, 0, .int 0) else none) else
     (bif Nat.beq pc 18 then some (.ireturn, 1, 0, 0, 0, mj_u) else none))))
def m_L_reset : mj_M := (10000, method_3_code, 5, (some .int), 14, 4, 0, 0, 0, 0, 19, k_L_reset)
abbrev y_L_reset : MethodName := ⟨"WatershedMapLaw", "reset", "(LWatershedMap;II[J)I"⟩
abbrev h_L_reset : List (Nat × Nat × Nat × Nat) := [(0, 10, 13, 13)]
theorem ok_L_reset : mj_okB m_L_reset = true := by decide +kernel
theorem pl_L_reset : plainName y_L_reset.cls = true ∧ y_L_reset.cls = mM_own m_L_reset ∧ mj_ini m_L_reset = false := by decide +kernel
theorem ym_L_reset : y_L_reset.cls ≠ "java/lang/invoke/MethodHandle" ∧ y_L_reset.cls ≠ "java/lang/invoke/VarHandle" ∧ (parseMethodDescriptor y_L_reset.desc).map (fun d => d.parameters.length) = some (mM_np m_L_reset) := by decide +kernel
def k_L_set : Nat → Option mj_I := fun pc =>
  bif Nat.blt pc 12 then (bif Nat.blt pc 5 then (bif Nat.blt pc 3 then (bif Nat.blt pc 2 then (bif Nat.beq pc 0 then some (.aload 4, 2, 4, 0, 0, mj_u) else none) else
     (bif Nat.beq pc 2 then some (.iconst 0, 1, 0, 0, 0, .int 0) else none)) else
    (bif Nat.blt pc 4 then (bif Nat.beq pc 3 then some (.aload_n 0, 1, 0, 0, 0, mj_u) else none) else
     (bif Nat.beq pc 4 then some (.iload_n 1, 1, 1, 0, 0, mj_u) else none))) else
   (bif Nat.blt pc 7 then (bif Nat.blt pc 6 then (bif Nat.beq pc 5 then some (.iload_n 2, 1, 2, 0, 0, mj_u) else none) else
     (bif Nat.beq pc 6 then some (.iload_n 3, 1, 3, 0, 0, mj_u) else none)) else
    (bif Nat.blt pc 10 then (bif Nat.beq pc 7 then some (.invokevirtual 15, 3, 74, 0, 643, mj_u) else none) else
     (bif Nat.blt pc 11 then (bif Nat.beq pc 10 then some (.i2l, 1, 0, 0, 0, mj_u) else none) else
      (bif Nat.beq pc 11 then some (.lastore, 1, 0, 0, 0, mj_u) else none))))) else
  (bif Nat.blt pc 19 then (bif Nat.blt pc 17 then (bif Nat.blt pc 15 then (bif Nat.beq pc 12 then some (.goto 11, 3, 23, 0, 0, mj_u) else none) else
     (bif Nat.beq pc 15 then some (.astore 5, 2, 5, 0, 0, mj_u) else none)) else
    (bif Nat.blt pc 18 then (bif Nat.beq pc 17 then some (.iconst 1, 1, 0, 0, 0, .int 1) else none) else
     (bif Nat.beq pc 18 then some (.ireturn, 1, 0, 0, 0, mj_u) else none))) else
   (bif Nat.blt pc 22 then (bif Nat.blt pc 21 then (bif Nat.beq pc 19 then some (.astore 5, 2, 5, 0, 0, mj_u) else none) else
     (bif Nat.beq pc 21 then some (.iconst 2, 1, 0, 0, 0, .int 2) else none)) else
    (bif Nat.blt pc 23 then (bif Nat.beq pc 22 then some (.ireturn, 1, 0, 0, 0, mj_u) else none) else
     (bif Nat.blt pc 24 then (bif Nat.beq pc 23 then some (.iconst 0, 1, 0, 0, 0, .int 0) else none) else
      (bif Nat.beq pc 24 then some (.ireturn, 1, 0, 0, 0, mj_u) else none)))))
def m_L_set : mj_M := (10000, method_4_code, 6, (some .int), 14, 5, 0, 0, 0, 0, 25, k_L_set)
abbrev y_L_set : MethodName := ⟨"WatershedMapLaw", "set", "(LWatershedMap;III[J)I"⟩
abbrev h_L_set : List (Nat × Nat × Nat × Nat) := [(0, 12, 15, 19), (0, 12, 19, 13)]
theorem ok_L_set : mj_okB m_L_set = true := by decide +kernel
theorem pl_L_set : plainName y_L_set.cls = true ∧ y_L_set.cls = mM_own m_L_set ∧ mj_ini m_L_set = false := by decide +kernel
theorem ym_L_set : y_L_set.cls ≠ "java/lang/invoke/MethodHandle" ∧ y_L_set.cls ≠ "java/lang/invoke/VarHandle" ∧ (parseMethodDescriptor y_L_set.desc).map (fun d => d.parameters.length) = some (mM_np m_L_set) := by decide +kernel
def k_L_tilt : Nat → Option mj_I := fun pc =>
  bif Nat.blt pc 10 then (bif Nat.blt pc 4 then (bif Nat.blt pc 2 then (bif Nat.beq pc 0 then some (.aload 4, 2, 4, 0, 0, mj_u) else none) else
    (bif Nat.blt pc 3 then (bif Nat.beq pc 2 then some (.iconst 0, 1, 0, 0, 0, .int 0) else none) else
     (bif Nat.beq pc 3 then some (.aload_n 0, 1, 0, 0, 0, mj_u) else none))) else
   (bif Nat.blt pc 6 then (bif Nat.blt pc 5 then (bif Nat.beq pc 4 then some (.iload_n 1, 1, 1, 0, 0, mj_u) else none) else
     (bif Nat.beq pc 5 then some (.iload_n 2, 1, 2, 0, 0, mj_u) else none)) else
    (bif Nat.blt pc 7 then (bif Nat.beq pc 6 then some (.iload_n 3, 1, 3, 0, 0, mj_u) else none) else
     (bif Nat.beq pc 7 then some (.invokevirtual 21, 3, 76, 0, 673, mj_u) else none)))) else
  (bif Nat.blt pc 17 then (bif Nat.blt pc 12 then (bif Nat.blt pc 11 then (bif Nat.beq pc 10 then some (.i2l, 1, 0, 0, 0, mj_u) else none) else
     (bif Nat.beq pc 11 then some (.lastore, 1, 0, 0, 0, mj_u) else none)) else
    (bif Nat.blt pc 15 then (bif Nat.beq pc 12 then some (.goto 7, 3, 19, 0, 0, mj_u) else none) else
     (bif Nat.beq pc 15 then some (.astore 5, 2, 5, 0, 0, mj_u) else none))) else
   (bif Nat.blt pc 19 then (bif Nat.blt pc 18 then (bif Nat.beq pc 17 then some (.iconst 1, 1, 0, 0, 0, .int 1) else none) else
     (bif Nat.beq pc 18 then some (.ireturn, 1, 0, 0, 0, mj_u) else none)) else
    (bif Nat.blt pc 20 then (bif Nat.beq pc 19 then some (.iconst 0, 1, 0, 0, 0, .int 0) else none) else
     (bif Nat.beq pc 20 then some (.ireturn, 1, 0, 0, 0, mj_u) else none))))
def m_L_tilt : mj_M := (10000, method_5_code, 6, (some .int), 14, 5, 0, 0, 0, 0, 21, k_L_tilt)
abbrev y_L_tilt : MethodName := ⟨"WatershedMapLaw", "tilt", "(LWatershedMap;III[J)I"⟩
abbrev h_L_tilt : List (Nat × Nat × Nat × Nat) := [(0, 12, 15, 13)]
theorem ok_L_tilt : mj_okB m_L_tilt = true := by decide +kernel
theorem pl_L_tilt : plainName y_L_tilt.cls = true ∧ y_L_tilt.cls = mM_own m_L_tilt ∧ mj_ini m_L_tilt = false := by decide +kernel
theorem ym_L_tilt : y_L_tilt.cls ≠ "java/lang/invoke/MethodHandle" ∧ y_L_tilt.cls ≠ "java/lang/invoke/VarHandle" ∧ (parseMethodDescriptor y_L_tilt.desc).map (fun d => d.parameters.length) = some (mM_np m_L_tilt) := by decide +kernel
def k_L_hill : Nat → Option mj_I := fun pc =>
  bif Nat.blt pc 13 then (bif Nat.blt pc 5 then (bif Nat.blt pc 3 then (bif Nat.blt pc 2 then (bif Nat.beq pc 0 then some (.aload 5, 2, 5, 0, 0, mj_u) else none) else
     (bif Nat.beq pc 2 then some (.iconst 0, 1, 0, 0, 0, .int 0) else none)) else
    (bif Nat.blt pc 4 then (bif Nat.beq pc 3 then some (.aload_n 0, 1, 0, 0, 0, mj_u) else none) else
     (bif Nat.beq pc 4 then some (.iload_n 1, 1, 1, 0, 0, mj_u) else none))) else
   (bif Nat.blt pc 7 then (bif Nat.blt pc 6 then (bif Nat.beq pc 5 then some (.iload_n 2, 1, 2, 0, 0, mj_u) else none) else
     (bif Nat.beq pc 6 then some (.iload_n 3, 1, 3, 0, 0, mj_u) else none)) else
    (bif Nat.blt pc 9 then (bif Nat.beq pc 7 then some (.iload 4, 2, 4, 0, 0, mj_u) else none) else
     (bif Nat.blt pc 12 then (bif Nat.beq pc 9 then some (.invokevirtual 24, 3, 78, 0, 685, mj_u) else none) else
      (bif Nat.beq pc 12 then some (.i2l, 1, 0, 0, 0, mj_u) else none))))) else
  (bif Nat.blt pc 21 then (bif Nat.blt pc 17 then (bif Nat.blt pc 14 then (bif Nat.beq pc 13 then some (.lastore, 1, 0, 0, 0, mj_u) else none) else
     (bif Nat.beq pc 14 then some (.goto 11, 3, 25, 0, 0, mj_u) else none)) else
    (bif Nat.blt pc 19 then (bif Nat.beq pc 17 then some (.astore 6, 2, 6, 0, 0, mj_u) else none) else
     (bif Nat.blt pc 20 then (bif Nat.beq pc 19 then some (.iconst 1, 1, 0, 0, 0, .int 1) else none) else
      (bif Nat.beq pc 20 then some (.ireturn, 1, 0, 0, 0, mj_u) else none)))) else
   (bif Nat.blt pc 24 then (bif Nat.blt pc 23 then (bif Nat.beq pc 21 then some (.astore 6, 2, 6, 0, 0, mj_u) else none) else
     (bif Nat.beq pc 23 then some (.iconst 2, 1, 0, 0, 0, .int 2) else none)) else
    (bif Nat.blt pc 25 then (bif Nat.beq pc 24 then some (.ireturn, 1, 0, 0, 0, mj_u) else none) else
     (bif Nat.blt pc 26 then (bif Nat.beq pc 25 then some (.iconst 0, 1, 0, 0, 0, .int 0) else none) else
      (bif Nat.beq pc 26 then some (.ireturn, 1, 0, 0, 0, mj_u) else none)))))
def m_L_hill : mj_M := (10000, method_6_code, 7, (some .int), 14, 6, 0, 0, 0, 0, 27, k_L_hill)
abbrev y_L_hill : MethodName := ⟨"WatershedMapLaw", "hill", "(LWatershedMap;IIII[J)I"⟩
abbrev h_L_hill : List (Nat × Nat × Nat × Nat) := [(0, 14, 17, 19), (0, 14, 21, 13)]
theorem ok_L_hill : mj_okB m_L_hill = true := by decide +kernel
theorem pl_L_hill : plainName y_L_hill.cls = true ∧ y_L_hill.cls = mM_own m_L_hill ∧ mj_ini m_L_hill = false := by decide +kernel
theorem ym_L_hill : y_L_hill.cls ≠ "java/lang/invoke/MethodHandle" ∧ y_L_hill.cls ≠ "java/lang/invoke/VarHandle" ∧ (parseMethodDescriptor y_L_hill.desc).map (fun d => d.parameters.length) = some (mM_np m_L_hill) := by decide +kernel
def k_L_dig : Nat → Option mj_I := fun pc =>
  bif Nat.blt pc 15 then (bif Nat.blt pc 6 then (bif Nat.blt pc 3 then (bif Nat.blt pc 2 then (bif Nat.beq pc 0 then some (.aload 6, 2, 6, 0, 0, mj_u) else none) else
     (bif Nat.beq pc 2 then some (.iconst 0, 1, 0, 0, 0, .int 0) else none)) else
    (bif Nat.blt pc 4 then (bif Nat.beq pc 3 then some (.aload_n 0, 1, 0, 0, 0, mj_u) else none) else
     (bif Nat.blt pc 5 then (bif Nat.beq pc 4 then some (.iload_n 1, 1, 1, 0, 0, mj_u) else none) else
      (bif Nat.beq pc 5 then some (.iload_n 2, 1, 2, 0, 0, mj_u) else none)))) else
   (bif Nat.blt pc 9 then (bif Nat.blt pc 7 then (bif Nat.beq pc 6 then some (.iload_n 3, 1, 3, 0, 0, mj_u) else none) else
     (bif Nat.beq pc 7 then some (.iload 4, 2, 4, 0, 0, mj_u) else none)) else
    (bif Nat.blt pc 11 then (bif Nat.beq pc 9 then some (.iload 5, 2, 5, 0, 0, mj_u) else none) else
     (bif Nat.blt pc 14 then (bif Nat.beq pc 11 then some (.invokevirtual 28, 3, 80, 0, 696, mj_u) else none) else
      (bif Nat.beq pc 14 then some (.i2l, 1, 0, 0, 0, mj_u) else none))))) else
  (bif Nat.blt pc 23 then (bif Nat.blt pc 19 then (bif Nat.blt pc 16 then (bif Nat.beq pc 15 then some (.lastore, 1, 0, 0, 0, mj_u) else none) else
     (bif Nat.beq pc 16 then some (.goto 11, 3, 27, 0, 0, mj_u) else none)) else
    (bif Nat.blt pc 21 then (bif Nat.beq pc 19 then some (.astore 7, 2, 7, 0, 0, mj_u) else none) else
     (bif Nat.blt pc 22 then (bif Nat.beq pc 21 then some (.iconst 1, 1, 0, 0, 0, .int 1) else none) else
      (bif Nat.beq pc 22 then some (.ireturn, 1, 0, 0, 0, mj_u) else none)))) else
   (bif Nat.blt pc 26 then (bif Nat.blt pc 25 then (bif Nat.beq pc 23 then some (.astore 7, 2, 7, 0, 0, mj_u) else none) else
     (bif Nat.beq pc 25 then some (.iconst 2, 1, 0, 0, 0, .int 2) else none)) else
    (bif Nat.blt pc 27 then (bif Nat.beq pc 26 then some (.ireturn, 1, 0, 0, 0, mj_u) else none) else
     (bif Nat.blt pc 28 then (bif Nat.beq pc 27 then some (.iconst 0, 1, 0, 0, 0, .int 0) else none) else
      (bif Nat.beq pc 28 then some (.ireturn, 1, 0, 0, 0, mj_u) else none)))))
def m_L_dig : mj_M := (10000, method_7_code, 8, (some .int), 14, 7, 0, 0, 0, 0, 29, k_L_dig)
abbrev y_L_dig : MethodName := ⟨"WatershedMapLaw", "dig", "(LWatershedMap;IIIII[J)I"⟩
abbrev h_L_dig : List (Nat × Nat × Nat × Nat) := [(0, 16, 19, 19), (0, 16, 23, 13)]
theorem ok_L_dig : mj_okB m_L_dig = true := by decide +kernel
theorem pl_L_dig : plainName y_L_dig.cls = true ∧ y_L_dig.cls = mM_own m_L_dig ∧ mj_ini m_L_dig = false := by decide +kernel
theorem ym_L_dig : y_L_dig.cls ≠ "java/lang/invoke/MethodHandle" ∧ y_L_dig.cls ≠ "java/lang/invoke/VarHandle" ∧ (parseMethodDescriptor y_L_dig.desc).map (fun d => d.parameters.length) = some (mM_np m_L_dig) := by decide +kernel
def k_L_wear : Nat → Option mj_I := fun pc =>
  bif Nat.blt pc 8 then (bif Nat.blt pc 3 then (bif Nat.blt pc 1 then (bif Nat.beq pc 0 then some (.aload_n 2, 1, 2, 0, 0, mj_u) else none) else
    (bif Nat.blt pc 2 then (bif Nat.beq pc 1 then some (.iconst 0, 1, 0, 0, 0, .int 0) else none) else
     (bif Nat.beq pc 2 then some (.aload_n 0, 1, 0, 0, 0, mj_u) else none))) else
   (bif Nat.blt pc 4 then (bif Nat.beq pc 3 then some (.iload_n 1, 1, 1, 0, 0, mj_u) else none) else
    (bif Nat.blt pc 7 then (bif Nat.beq pc 4 then some (.invokevirtual 32, 3, 85, 0, 716, mj_u) else none) else
     (bif Nat.beq pc 7 then some (.i2l, 1, 0, 0, 0, mj_u) else none)))) else
  (bif Nat.blt pc 13 then (bif Nat.blt pc 9 then (bif Nat.beq pc 8 then some (.lastore, 1, 0, 0, 0, mj_u) else none) else
    (bif Nat.blt pc 12 then (bif Nat.beq pc 9 then some (.goto 6, 3, 15, 0, 0, mj_u) else none) else
     (bif Nat.beq pc 12 then some (.astore_n 3, 1, 3, 0, 0, mj_u) else none))) else
   (bif Nat.blt pc 15 then (bif Nat.blt pc 14 then (bif Nat.beq pc 13 then some (.iconst 1, 1, 0, 0, 0, .int 1) else none) else
     (bif Nat.beq pc 14 then some (.ireturn, 1, 0, 0, 0, mj_u) else none)) else
    (bif Nat.blt pc 16 then (bif Nat.beq pc 15 then some (.iconst 0, 1, 0, 0, 0, .int 0) else none) else
     (bif Nat.beq pc 16 then some (.ireturn, 1, 0, 0, 0, mj_u) else none))))
def m_L_wear : mj_M := (10000, method_8_code, 4, (some .int), 14, 3, 0, 0, 0, 0, 17, k_L_wear)
abbrev y_L_wear : MethodName := ⟨"WatershedMapLaw", "wear", "(LWatershedMap;I[J)I"⟩
abbrev h_L_wear : List (Nat × Nat × Nat × Nat) := [(0, 9, 12, 13)]
theorem ok_L_wear : mj_okB m_L_wear = true := by decide +kernel
theorem pl_L_wear : plainName y_L_wear.cls = true ∧ y_L_wear.cls = mM_own m_L_wear ∧ mj_ini m_L_wear = false := by decide +kernel
theorem ym_L_wear : y_L_wear.cls ≠ "java/lang/invoke/MethodHandle" ∧ y_L_wear.cls ≠ "java/lang/invoke/VarHandle" ∧ (parseMethodDescriptor y_L_wear.desc).map (fun d => d.parameters.length) = some (mM_np m_L_wear) := by decide +kernel
def k_L_setBrook : Nat → Option mj_I := fun pc =>
  bif Nat.blt pc 8 then (bif Nat.blt pc 3 then (bif Nat.blt pc 1 then (bif Nat.beq pc 0 then some (.aload_n 2, 1, 2, 0, 0, mj_u) else none) else
    (bif Nat.blt pc 2 then (bif Nat.beq pc 1 then some (.iconst 0, 1, 0, 0, 0, .int 0) else none) else
     (bif Nat.beq pc 2 then some (.aload_n 0, 1, 0, 0, 0, mj_u) else none))) else
   (bif Nat.blt pc 4 then (bif Nat.beq pc 3 then some (.iload_n 1, 1, 1, 0, 0, mj_u) else none) else
    (bif Nat.blt pc 7 then (bif Nat.beq pc 4 then some (.invokevirtual 36, 3, 87, 0, 727, mj_u) else none) else
     (bif Nat.beq pc 7 then some (.i2l, 1, 0, 0, 0, mj_u) else none)))) else
  (bif Nat.blt pc 13 then (bif Nat.blt pc 9 then (bif Nat.beq pc 8 then some (.lastore, 1, 0, 0, 0, mj_u) else none) else
    (bif Nat.blt pc 12 then (bif Nat.beq pc 9 then some (.goto 6, 3, 15, 0, 0, mj_u) else none) else
     (bif Nat.beq pc 12 then some (.astore_n 3, 1, 3, 0, 0, mj_u) else none))) else
   (bif Nat.blt pc 15 then (bif Nat.blt pc 14 then (bif Nat.beq pc 13 then some (.iconst 1, 1, 0, 0, 0, .int 1) else none) else
     (bif Nat.beq pc 14 then some (.ireturn, 1, 0, 0, 0, mj_u) else none)) else
    (bif Nat.blt pc 16 then (bif Nat.beq pc 15 then some (.iconst 0, 1, 0, 0, 0, .int 0) else none) else
     (bif Nat.beq pc 16 then some (.ireturn, 1, 0, 0, 0, mj_u) else none))))
def m_L_setBrook : mj_M := (10000, method_9_code, 4, (some .int), 14, 3, 0, 0, 0, 0, 17, k_L_setBrook)
abbrev y_L_setBrook : MethodName := ⟨"WatershedMapLaw", "setBrook", "(LWatershedMap;I[J)I"⟩
abbrev h_L_setBrook : List (Nat × Nat × Nat × Nat) := [(0, 9, 12, 13)]
theorem ok_L_setBrook : mj_okB m_L_setBrook = true := by decide +kernel
theorem pl_L_setBrook : plainName y_L_setBrook.cls = true ∧ y_L_setBrook.cls = mM_own m_L_setBrook ∧ mj_ini m_L_setBrook = false := by decide +kernel
theorem ym_L_setBrook : y_L_setBrook.cls ≠ "java/lang/invoke/MethodHandle" ∧ y_L_setBrook.cls ≠ "java/lang/invoke/VarHandle" ∧ (parseMethodDescriptor y_L_setBrook.desc).map (fun d => d.parameters.length) = some (mM_np m_L_setBrook) := by decide +kernel
def k_L_map : Nat → Option mj_I := fun pc =>
  bif Nat.blt pc 8 then (bif Nat.blt pc 3 then (bif Nat.blt pc 1 then (bif Nat.beq pc 0 then some (.aload_n 2, 1, 2, 0, 0, mj_u) else none) else
    (bif Nat.blt pc 2 then (bif Nat.beq pc 1 then some (.iconst 0, 1, 0, 0, 0, .int 0) else none) else
     (bif Nat.beq pc 2 then some (.aload_n 0, 1, 0, 0, 0, mj_u) else none))) else
   (bif Nat.blt pc 4 then (bif Nat.beq pc 3 then some (.iload_n 1, 1, 1, 0, 0, mj_u) else none) else
    (bif Nat.blt pc 7 then (bif Nat.beq pc 4 then some (.invokevirtual 39, 3, 88, 0, 734, mj_u) else none) else
     (bif Nat.beq pc 7 then some (.i2l, 1, 0, 0, 0, mj_u) else none)))) else
  (bif Nat.blt pc 13 then (bif Nat.blt pc 9 then (bif Nat.beq pc 8 then some (.lastore, 1, 0, 0, 0, mj_u) else none) else
    (bif Nat.blt pc 12 then (bif Nat.beq pc 9 then some (.goto 6, 3, 15, 0, 0, mj_u) else none) else
     (bif Nat.beq pc 12 then some (.astore_n 3, 1, 3, 0, 0, mj_u) else none))) else
   (bif Nat.blt pc 15 then (bif Nat.blt pc 14 then (bif Nat.beq pc 13 then some (.iconst 1, 1, 0, 0, 0, .int 1) else none) else
     (bif Nat.beq pc 14 then some (.ireturn, 1, 0, 0, 0, mj_u) else none)) else
    (bif Nat.blt pc 16 then (bif Nat.beq pc 15 then some (.iconst 0, 1, 0, 0, 0, .int 0) else none) else
     (bif Nat.beq pc 16 then some (.ireturn, 1, 0, 0, 0, mj_u) else none))))
def m_L_map : mj_M := (10000, method_10_code, 4, (some .int), 14, 3, 0, 0, 0, 0, 17, k_L_map)
abbrev y_L_map : MethodName := ⟨"WatershedMapLaw", "map", "(LWatershedMap;I[J)I"⟩
abbrev h_L_map : List (Nat × Nat × Nat × Nat) := [(0, 9, 12, 13)]
theorem ok_L_map : mj_okB m_L_map = true := by decide +kernel
theorem pl_L_map : plainName y_L_map.cls = true ∧ y_L_map.cls = mM_own m_L_map ∧ mj_ini m_L_map = false := by decide +kernel
theorem ym_L_map : y_L_map.cls ≠ "java/lang/invoke/MethodHandle" ∧ y_L_map.cls ≠ "java/lang/invoke/VarHandle" ∧ (parseMethodDescriptor y_L_map.desc).map (fun d => d.parameters.length) = some (mM_np m_L_map) := by decide +kernel
def k_L_height : Nat → Option mj_I := fun pc =>
  bif Nat.blt pc 9 then (bif Nat.blt pc 3 then (bif Nat.blt pc 1 then (bif Nat.beq pc 0 then some (.aload_n 3, 1, 3, 0, 0, mj_u) else none) else
    (bif Nat.blt pc 2 then (bif Nat.beq pc 1 then some (.iconst 0, 1, 0, 0, 0, .int 0) else none) else
     (bif Nat.beq pc 2 then some (.aload_n 0, 1, 0, 0, 0, mj_u) else none))) else
   (bif Nat.blt pc 5 then (bif Nat.blt pc 4 then (bif Nat.beq pc 3 then some (.iload_n 1, 1, 1, 0, 0, mj_u) else none) else
     (bif Nat.beq pc 4 then some (.iload_n 2, 1, 2, 0, 0, mj_u) else none)) else
    (bif Nat.blt pc 8 then (bif Nat.beq pc 5 then some (.invokevirtual 42, 3, 89, 0, 741, mj_u) else none) else
     (bif Nat.beq pc 8 then some (.i2l, 1, 0, 0, 0, mj_u) else none)))) else
  (bif Nat.blt pc 15 then (bif Nat.blt pc 10 then (bif Nat.beq pc 9 then some (.lastore, 1, 0, 0, 0, mj_u) else none) else
    (bif Nat.blt pc 13 then (bif Nat.beq pc 10 then some (.goto 7, 3, 17, 0, 0, mj_u) else none) else
     (bif Nat.beq pc 13 then some (.astore 4, 2, 4, 0, 0, mj_u) else none))) else
   (bif Nat.blt pc 17 then (bif Nat.blt pc 16 then (bif Nat.beq pc 15 then some (.iconst 1, 1, 0, 0, 0, .int 1) else none) else
     (bif Nat.beq pc 16 then some (.ireturn, 1, 0, 0, 0, mj_u) else none)) else
    (bif Nat.blt pc 18 then (bif Nat.beq pc 17 then some (.iconst 0, 1, 0, 0, 0, .int 0) else none) else
     (bif Nat.beq pc 18 then some (.ireturn, 1, 0, 0, 0, mj_u) else none))))
def m_L_height : mj_M := (10000, method_11_code, 5, (some .int), 14, 4, 0, 0, 0, 0, 19, k_L_height)
abbrev y_L_height : MethodName := ⟨"WatershedMapLaw", "height", "(LWatershedMap;II[J)I"⟩
abbrev h_L_height : List (Nat × Nat × Nat × Nat) := [(0, 10, 13, 19)]
theorem ok_L_height : mj_okB m_L_height = true := by decide +kernel
theorem pl_L_height : plainName y_L_height.cls = true ∧ y_L_height.cls = mM_own m_L_height ∧ mj_ini m_L_height = false := by decide +kernel
theorem ym_L_height : y_L_height.cls ≠ "java/lang/invoke/MethodHandle" ∧ y_L_height.cls ≠ "java/lang/invoke/VarHandle" ∧ (parseMethodDescriptor y_L_height.desc).map (fun d => d.parameters.length) = some (mM_np m_L_height) := by decide +kernel
def k_L_water : Nat → Option mj_I := fun pc =>
  bif Nat.blt pc 12 then (bif Nat.blt pc 5 then (bif Nat.blt pc 3 then (bif Nat.blt pc 2 then (bif Nat.beq pc 0 then some (.aload 4, 2, 4, 0, 0, mj_u) else none) else
     (bif Nat.beq pc 2 then some (.iconst 0, 1, 0, 0, 0, .int 0) else none)) else
    (bif Nat.blt pc 4 then (bif Nat.beq pc 3 then some (.aload_n 0, 1, 0, 0, 0, mj_u) else none) else
     (bif Nat.beq pc 4 then some (.iload_n 1, 1, 1, 0, 0, mj_u) else none))) else
   (bif Nat.blt pc 7 then (bif Nat.blt pc 6 then (bif Nat.beq pc 5 then some (.iload_n 2, 1, 2, 0, 0, mj_u) else none) else
     (bif Nat.beq pc 6 then some (.iload_n 3, 1, 3, 0, 0, mj_u) else none)) else
    (bif Nat.blt pc 10 then (bif Nat.beq pc 7 then some (.invokevirtual 45, 3, 90, 0, 748, mj_u) else none) else
     (bif Nat.blt pc 11 then (bif Nat.beq pc 10 then some (.i2l, 1, 0, 0, 0, mj_u) else none) else
      (bif Nat.beq pc 11 then some (.lastore, 1, 0, 0, 0, mj_u) else none))))) else
  (bif Nat.blt pc 19 then (bif Nat.blt pc 17 then (bif Nat.blt pc 15 then (bif Nat.beq pc 12 then some (.goto 11, 3, 23, 0, 0, mj_u) else none) else
     (bif Nat.beq pc 15 then some (.astore 5, 2, 5, 0, 0, mj_u) else none)) else
    (bif Nat.blt pc 18 then (bif Nat.beq pc 17 then some (.iconst 1, 1, 0, 0, 0, .int 1) else none) else
     (bif Nat.beq pc 18 then some (.ireturn, 1, 0, 0, 0, mj_u) else none))) else
   (bif Nat.blt pc 22 then (bif Nat.blt pc 21 then (bif Nat.beq pc 19 then some (.astore 5, 2, 5, 0, 0, mj_u) else none) else
     (bif Nat.beq pc 21 then some (.iconst 2, 1, 0, 0, 0, .int 2) else none)) else
    (bif Nat.blt pc 23 then (bif Nat.beq pc 22 then some (.ireturn, 1, 0, 0, 0, mj_u) else none) else
     (bif Nat.blt pc 24 then (bif Nat.beq pc 23 then some (.iconst 0, 1, 0, 0, 0, .int 0) else none) else
      (bif Nat.beq pc 24 then some (.ireturn, 1, 0, 0, 0, mj_u) else none)))))
def m_L_water : mj_M := (10000, method_12_code, 6, (some .int), 14, 5, 0, 0, 0, 0, 25, k_L_water)
abbrev y_L_water : MethodName := ⟨"WatershedMapLaw", "water", "(LWatershedMap;III[J)I"⟩
abbrev h_L_water : List (Nat × Nat × Nat × Nat) := [(0, 12, 15, 19), (0, 12, 19, 13)]
theorem ok_L_water : mj_okB m_L_water = true := by decide +kernel
theorem pl_L_water : plainName y_L_water.cls = true ∧ y_L_water.cls = mM_own m_L_water ∧ mj_ini m_L_water = false := by decide +kernel
theorem ym_L_water : y_L_water.cls ≠ "java/lang/invoke/MethodHandle" ∧ y_L_water.cls ≠ "java/lang/invoke/VarHandle" ∧ (parseMethodDescriptor y_L_water.desc).map (fun d => d.parameters.length) = some (mM_np m_L_water) := by decide +kernel
def k_L_level : Nat → Option mj_I := fun pc =>
  bif Nat.blt pc 9 then (bif Nat.blt pc 3 then (bif Nat.blt pc 1 then (bif Nat.beq pc 0 then some (.aload_n 3, 1, 3, 0, 0, mj_u) else none) else
    (bif Nat.blt pc 2 then (bif Nat.beq pc 1 then some (.iconst 0, 1, 0, 0, 0, .int 0) else none) else
     (bif Nat.beq pc 2 then some (.aload_n 0, 1, 0, 0, 0, mj_u) else none))) else
   (bif Nat.blt pc 5 then (bif Nat.blt pc 4 then (bif Nat.beq pc 3 then some (.iload_n 1, 1, 1, 0, 0, mj_u) else none) else
     (bif Nat.beq pc 4 then some (.iload_n 2, 1, 2, 0, 0, mj_u) else none)) else
    (bif Nat.blt pc 8 then (bif Nat.beq pc 5 then some (.invokevirtual 48, 3, 91, 0, 755, mj_u) else none) else
     (bif Nat.beq pc 8 then some (.i2l, 1, 0, 0, 0, mj_u) else none)))) else
  (bif Nat.blt pc 15 then (bif Nat.blt pc 10 then (bif Nat.beq pc 9 then some (.lastore, 1, 0, 0, 0, mj_u) else none) else
    (bif Nat.blt pc 13 then (bif Nat.beq pc 10 then some (.goto 7, 3, 17, 0, 0, mj_u) else none) else
     (bif Nat.beq pc 13 then some (.astore 4, 2, 4, 0, 0, mj_u) else none))) else
   (bif Nat.blt pc 17 then (bif Nat.blt pc 16 then (bif Nat.beq pc 15 then some (.iconst 1, 1, 0, 0, 0, .int 1) else none) else
     (bif Nat.beq pc 16 then some (.ireturn, 1, 0, 0, 0, mj_u) else none)) else
    (bif Nat.blt pc 18 then (bif Nat.beq pc 17 then some (.iconst 0, 1, 0, 0, 0, .int 0) else none) else
     (bif Nat.beq pc 18 then some (.ireturn, 1, 0, 0, 0, mj_u) else none))))
def m_L_level : mj_M := (10000, method_13_code, 5, (some .int), 14, 4, 0, 0, 0, 0, 19, k_L_level)
abbrev y_L_level : MethodName := ⟨"WatershedMapLaw", "level", "(LWatershedMap;II[J)I"⟩
abbrev h_L_level : List (Nat × Nat × Nat × Nat) := [(0, 10, 13, 19)]
theorem ok_L_level : mj_okB m_L_level = true := by decide +kernel
theorem pl_L_level : plainName y_L_level.cls = true ∧ y_L_level.cls = mM_own m_L_level ∧ mj_ini m_L_level = false := by decide +kernel
theorem ym_L_level : y_L_level.cls ≠ "java/lang/invoke/MethodHandle" ∧ y_L_level.cls ≠ "java/lang/invoke/VarHandle" ∧ (parseMethodDescriptor y_L_level.desc).map (fun d => d.parameters.length) = some (mM_np m_L_level) := by decide +kernel
def k_L_lake : Nat → Option mj_I := fun pc =>
  bif Nat.blt pc 12 then (bif Nat.blt pc 5 then (bif Nat.blt pc 3 then (bif Nat.blt pc 2 then (bif Nat.beq pc 0 then some (.aload 4, 2, 4, 0, 0, mj_u) else none) else
     (bif Nat.beq pc 2 then some (.iconst 0, 1, 0, 0, 0, .int 0) else none)) else
    (bif Nat.blt pc 4 then (bif Nat.beq pc 3 then some (.aload_n 0, 1, 0, 0, 0, mj_u) else none) else
     (bif Nat.beq pc 4 then some (.iload_n 1, 1, 1, 0, 0, mj_u) else none))) else
   (bif Nat.blt pc 7 then (bif Nat.blt pc 6 then (bif Nat.beq pc 5 then some (.iload_n 2, 1, 2, 0, 0, mj_u) else none) else
     (bif Nat.beq pc 6 then some (.iload_n 3, 1, 3, 0, 0, mj_u) else none)) else
    (bif Nat.blt pc 10 then (bif Nat.beq pc 7 then some (.invokevirtual 51, 3, 92, 0, 762, mj_u) else none) else
     (bif Nat.blt pc 11 then (bif Nat.beq pc 10 then some (.i2l, 1, 0, 0, 0, mj_u) else none) else
      (bif Nat.beq pc 11 then some (.lastore, 1, 0, 0, 0, mj_u) else none))))) else
  (bif Nat.blt pc 19 then (bif Nat.blt pc 17 then (bif Nat.blt pc 15 then (bif Nat.beq pc 12 then some (.goto 11, 3, 23, 0, 0, mj_u) else none) else
     (bif Nat.beq pc 15 then some (.astore 5, 2, 5, 0, 0, mj_u) else none)) else
    (bif Nat.blt pc 18 then (bif Nat.beq pc 17 then some (.iconst 1, 1, 0, 0, 0, .int 1) else none) else
     (bif Nat.beq pc 18 then some (.ireturn, 1, 0, 0, 0, mj_u) else none))) else
   (bif Nat.blt pc 22 then (bif Nat.blt pc 21 then (bif Nat.beq pc 19 then some (.astore 5, 2, 5, 0, 0, mj_u) else none) else
     (bif Nat.beq pc 21 then some (.iconst 2, 1, 0, 0, 0, .int 2) else none)) else
    (bif Nat.blt pc 23 then (bif Nat.beq pc 22 then some (.ireturn, 1, 0, 0, 0, mj_u) else none) else
     (bif Nat.blt pc 24 then (bif Nat.beq pc 23 then some (.iconst 0, 1, 0, 0, 0, .int 0) else none) else
      (bif Nat.beq pc 24 then some (.ireturn, 1, 0, 0, 0, mj_u) else none)))))
def m_L_lake : mj_M := (10000, method_14_code, 6, (some .int), 14, 5, 0, 0, 0, 0, 25, k_L_lake)
abbrev y_L_lake : MethodName := ⟨"WatershedMapLaw", "lake", "(LWatershedMap;III[J)I"⟩
abbrev h_L_lake : List (Nat × Nat × Nat × Nat) := [(0, 12, 15, 19), (0, 12, 19, 13)]
theorem ok_L_lake : mj_okB m_L_lake = true := by decide +kernel
theorem pl_L_lake : plainName y_L_lake.cls = true ∧ y_L_lake.cls = mM_own m_L_lake ∧ mj_ini m_L_lake = false := by decide +kernel
theorem ym_L_lake : y_L_lake.cls ≠ "java/lang/invoke/MethodHandle" ∧ y_L_lake.cls ≠ "java/lang/invoke/VarHandle" ∧ (parseMethodDescriptor y_L_lake.desc).map (fun d => d.parameters.length) = some (mM_np m_L_lake) := by decide +kernel
def k_L_contour : Nat → Option mj_I := fun pc =>
  bif Nat.blt pc 9 then (bif Nat.blt pc 3 then (bif Nat.blt pc 1 then (bif Nat.beq pc 0 then some (.aload_n 3, 1, 3, 0, 0, mj_u) else none) else
    (bif Nat.blt pc 2 then (bif Nat.beq pc 1 then some (.iconst 0, 1, 0, 0, 0, .int 0) else none) else
     (bif Nat.beq pc 2 then some (.aload_n 0, 1, 0, 0, 0, mj_u) else none))) else
   (bif Nat.blt pc 5 then (bif Nat.blt pc 4 then (bif Nat.beq pc 3 then some (.iload_n 1, 1, 1, 0, 0, mj_u) else none) else
     (bif Nat.beq pc 4 then some (.iload_n 2, 1, 2, 0, 0, mj_u) else none)) else
    (bif Nat.blt pc 8 then (bif Nat.beq pc 5 then some (.invokevirtual 54, 3, 96, 0, 782, mj_u) else none) else
     (bif Nat.beq pc 8 then some (.i2l, 1, 0, 0, 0, mj_u) else none)))) else
  (bif Nat.blt pc 15 then (bif Nat.blt pc 10 then (bif Nat.beq pc 9 then some (.lastore, 1, 0, 0, 0, mj_u) else none) else
    (bif Nat.blt pc 13 then (bif Nat.beq pc 10 then some (.goto 7, 3, 17, 0, 0, mj_u) else none) else
     (bif Nat.beq pc 13 then some (.astore 4, 2, 4, 0, 0, mj_u) else none))) else
   (bif Nat.blt pc 17 then (bif Nat.blt pc 16 then (bif Nat.beq pc 15 then some (.iconst 1, 1, 0, 0, 0, .int 1) else none) else
     (bif Nat.beq pc 16 then some (.ireturn, 1, 0, 0, 0, mj_u) else none)) else
    (bif Nat.blt pc 18 then (bif Nat.beq pc 17 then some (.iconst 0, 1, 0, 0, 0, .int 0) else none) else
     (bif Nat.beq pc 18 then some (.ireturn, 1, 0, 0, 0, mj_u) else none))))
def m_L_contour : mj_M := (10000, method_15_code, 5, (some .int), 14, 4, 0, 0, 0, 0, 19, k_L_contour)
abbrev y_L_contour : MethodName := ⟨"WatershedMapLaw", "contour", "(LWatershedMap;II[J)I"⟩
abbrev h_L_contour : List (Nat × Nat × Nat × Nat) := [(0, 10, 13, 13)]
theorem ok_L_contour : mj_okB m_L_contour = true := by decide +kernel
theorem pl_L_contour : plainName y_L_contour.cls = true ∧ y_L_contour.cls = mM_own m_L_contour ∧ mj_ini m_L_contour = false := by decide +kernel
theorem ym_L_contour : y_L_contour.cls ≠ "java/lang/invoke/MethodHandle" ∧ y_L_contour.cls ≠ "java/lang/invoke/VarHandle" ∧ (parseMethodDescriptor y_L_contour.desc).map (fun d => d.parameters.length) = some (mM_np m_L_contour) := by decide +kernel
def k_L_sees : Nat → Option mj_I := fun pc =>
  bif Nat.blt pc 18 then (bif Nat.blt pc 6 then (bif Nat.blt pc 3 then (bif Nat.blt pc 2 then (bif Nat.beq pc 0 then some (.aload 6, 2, 6, 0, 0, mj_u) else none) else
     (bif Nat.beq pc 2 then some (.iconst 0, 1, 0, 0, 0, .int 0) else none)) else
    (bif Nat.blt pc 4 then (bif Nat.beq pc 3 then some (.aload_n 0, 1, 0, 0, 0, mj_u) else none) else
     (bif Nat.blt pc 5 then (bif Nat.beq pc 4 then some (.iload_n 1, 1, 1, 0, 0, mj_u) else none) else
      (bif Nat.beq pc 5 then some (.iload_n 2, 1, 2, 0, 0, mj_u) else none)))) else
   (bif Nat.blt pc 11 then (bif Nat.blt pc 7 then (bif Nat.beq pc 6 then some (.iload_n 3, 1, 3, 0, 0, mj_u) else none) else
     (bif Nat.blt pc 9 then (bif Nat.beq pc 7 then some (.iload 4, 2, 4, 0, 0, mj_u) else none) else
      (bif Nat.beq pc 9 then some (.iload 5, 2, 5, 0, 0, mj_u) else none))) else
    (bif Nat.blt pc 14 then (bif Nat.beq pc 11 then some (.invokevirtual 57, 3, 97, 0, 789, mj_u) else none) else
     (bif Nat.blt pc 17 then (bif Nat.beq pc 14 then some (.ifCond .eq 7, 3, 21, 0, 0, mj_u) else none) else
      (bif Nat.beq pc 17 then some (.lconst 1, 1, 0, 0, 0, .long 1) else none))))) else
  (bif Nat.blt pc 29 then (bif Nat.blt pc 23 then (bif Nat.blt pc 21 then (bif Nat.beq pc 18 then some (.goto 4, 3, 22, 0, 0, mj_u) else none) else
     (bif Nat.blt pc 22 then (bif Nat.beq pc 21 then some (.lconst 0, 1, 0, 0, 0, .long 0) else none) else
      (bif Nat.beq pc 22 then some (.lastore, 1, 0, 0, 0, mj_u) else none))) else
    (bif Nat.blt pc 26 then (bif Nat.beq pc 23 then some (.goto 11, 3, 34, 0, 0, mj_u) else none) else
     (bif Nat.blt pc 28 then (bif Nat.beq pc 26 then some (.astore 7, 2, 7, 0, 0, mj_u) else none) else
      (bif Nat.beq pc 28 then some (.iconst 1, 1, 0, 0, 0, .int 1) else none)))) else
   (bif Nat.blt pc 33 then (bif Nat.blt pc 30 then (bif Nat.beq pc 29 then some (.ireturn, 1, 0, 0, 0, mj_u) else none) else
     (bif Nat.blt pc 32 then (bif Nat.beq pc 30 then some (.astore 7, 2, 7, 0, 0, mj_u) else none) else
      (bif Nat.beq pc 32 then some (.iconst 2, 1, 0, 0, 0, .int 2) else none))) else
    (bif Nat.blt pc 34 then (bif Nat.beq pc 33 then some (.ireturn, 1, 0, 0, 0, mj_u) else none) else
     (bif Nat.blt pc 35 then (bif Nat.beq pc 34 then some (.iconst 0, 1, 0, 0, 0, .int 0) else none) else
      (bif Nat.beq pc 35 then some (.ireturn, 1, 0, 0, 0, mj_u) else none)))))
def m_L_sees : mj_M := (10000, method_16_code, 8, (some .int), 14, 7, 0, 0, 0, 0, 36, k_L_sees)
abbrev y_L_sees : MethodName := ⟨"WatershedMapLaw", "sees", "(LWatershedMap;IIIII[J)I"⟩
abbrev h_L_sees : List (Nat × Nat × Nat × Nat) := [(0, 23, 26, 19), (0, 23, 30, 13)]
theorem ok_L_sees : mj_okB m_L_sees = true := by decide +kernel
theorem pl_L_sees : plainName y_L_sees.cls = true ∧ y_L_sees.cls = mM_own m_L_sees ∧ mj_ini m_L_sees = false := by decide +kernel
theorem ym_L_sees : y_L_sees.cls ≠ "java/lang/invoke/MethodHandle" ∧ y_L_sees.cls ≠ "java/lang/invoke/VarHandle" ∧ (parseMethodDescriptor y_L_sees.desc).map (fun d => d.parameters.length) = some (mM_np m_L_sees) := by decide +kernel
def k_L_seen : Nat → Option mj_I := fun pc =>
  bif Nat.blt pc 12 then (bif Nat.blt pc 5 then (bif Nat.blt pc 3 then (bif Nat.blt pc 2 then (bif Nat.beq pc 0 then some (.aload 4, 2, 4, 0, 0, mj_u) else none) else
     (bif Nat.beq pc 2 then some (.iconst 0, 1, 0, 0, 0, .int 0) else none)) else
    (bif Nat.blt pc 4 then (bif Nat.beq pc 3 then some (.aload_n 0, 1, 0, 0, 0, mj_u) else none) else
     (bif Nat.beq pc 4 then some (.iload_n 1, 1, 1, 0, 0, mj_u) else none))) else
   (bif Nat.blt pc 7 then (bif Nat.blt pc 6 then (bif Nat.beq pc 5 then some (.iload_n 2, 1, 2, 0, 0, mj_u) else none) else
     (bif Nat.beq pc 6 then some (.iload_n 3, 1, 3, 0, 0, mj_u) else none)) else
    (bif Nat.blt pc 10 then (bif Nat.beq pc 7 then some (.invokevirtual 61, 3, 99, 0, 803, mj_u) else none) else
     (bif Nat.blt pc 11 then (bif Nat.beq pc 10 then some (.i2l, 1, 0, 0, 0, mj_u) else none) else
      (bif Nat.beq pc 11 then some (.lastore, 1, 0, 0, 0, mj_u) else none))))) else
  (bif Nat.blt pc 19 then (bif Nat.blt pc 17 then (bif Nat.blt pc 15 then (bif Nat.beq pc 12 then some (.goto 11, 3, 23, 0, 0, mj_u) else none) else
     (bif Nat.beq pc 15 then some (.astore 5, 2, 5, 0, 0, mj_u) else none)) else
    (bif Nat.blt pc 18 then (bif Nat.beq pc 17 then some (.iconst 1, 1, 0, 0, 0, .int 1) else none) else
     (bif Nat.beq pc 18 then some (.ireturn, 1, 0, 0, 0, mj_u) else none))) else
   (bif Nat.blt pc 22 then (bif Nat.blt pc 21 then (bif Nat.beq pc 19 then some (.astore 5, 2, 5, 0, 0, mj_u) else none) else
     (bif Nat.beq pc 21 then some (.iconst 2, 1, 0, 0, 0, .int 2) else none)) else
    (bif Nat.blt pc 23 then (bif Nat.beq pc 22 then some (.ireturn, 1, 0, 0, 0, mj_u) else none) else
     (bif Nat.blt pc 24 then (bif Nat.beq pc 23 then some (.iconst 0, 1, 0, 0, 0, .int 0) else none) else
      (bif Nat.beq pc 24 then some (.ireturn, 1, 0, 0, 0, mj_u) else none)))))
def m_L_seen : mj_M := (10000, method_17_code, 6, (some .int), 14, 5, 0, 0, 0, 0, 25, k_L_seen)
abbrev y_L_seen : MethodName := ⟨"WatershedMapLaw", "seen", "(LWatershedMap;III[J)I"⟩
abbrev h_L_seen : List (Nat × Nat × Nat × Nat) := [(0, 12, 15, 19), (0, 12, 19, 13)]
theorem ok_L_seen : mj_okB m_L_seen = true := by decide +kernel
theorem pl_L_seen : plainName y_L_seen.cls = true ∧ y_L_seen.cls = mM_own m_L_seen ∧ mj_ini m_L_seen = false := by decide +kernel
theorem ym_L_seen : y_L_seen.cls ≠ "java/lang/invoke/MethodHandle" ∧ y_L_seen.cls ≠ "java/lang/invoke/VarHandle" ∧ (parseMethodDescriptor y_L_seen.desc).map (fun d => d.parameters.length) = some (mM_np m_L_seen) := by decide +kernel
def k_L_takes : Nat → Option mj_I := fun pc =>
  bif Nat.blt pc 12 then (bif Nat.blt pc 5 then (bif Nat.blt pc 3 then (bif Nat.blt pc 2 then (bif Nat.beq pc 0 then some (.aload 5, 2, 5, 0, 0, mj_u) else none) else
     (bif Nat.beq pc 2 then some (.iconst 0, 1, 0, 0, 0, .int 0) else none)) else
    (bif Nat.blt pc 4 then (bif Nat.beq pc 3 then some (.aload_n 0, 1, 0, 0, 0, mj_u) else none) else
     (bif Nat.beq pc 4 then some (.iload_n 1, 1, 1, 0, 0, mj_u) else none))) else
   (bif Nat.blt pc 7 then (bif Nat.blt pc 6 then (bif Nat.beq pc 5 then some (.iload_n 2, 1, 2, 0, 0, mj_u) else none) else
     (bif Nat.beq pc 6 then some (.iload_n 3, 1, 3, 0, 0, mj_u) else none)) else
    (bif Nat.blt pc 9 then (bif Nat.beq pc 7 then some (.iload 4, 2, 4, 0, 0, mj_u) else none) else
     (bif Nat.beq pc 9 then some (.invokevirtual 64, 3, 101, 0, 815, mj_u) else none)))) else
  (bif Nat.blt pc 19 then (bif Nat.blt pc 14 then (bif Nat.blt pc 13 then (bif Nat.beq pc 12 then some (.i2l, 1, 0, 0, 0, mj_u) else none) else
     (bif Nat.beq pc 13 then some (.lastore, 1, 0, 0, 0, mj_u) else none)) else
    (bif Nat.blt pc 17 then (bif Nat.beq pc 14 then some (.goto 7, 3, 21, 0, 0, mj_u) else none) else
     (bif Nat.beq pc 17 then some (.astore 6, 2, 6, 0, 0, mj_u) else none))) else
   (bif Nat.blt pc 21 then (bif Nat.blt pc 20 then (bif Nat.beq pc 19 then some (.iconst 1, 1, 0, 0, 0, .int 1) else none) else
     (bif Nat.beq pc 20 then some (.ireturn, 1, 0, 0, 0, mj_u) else none)) else
    (bif Nat.blt pc 22 then (bif Nat.beq pc 21 then some (.iconst 0, 1, 0, 0, 0, .int 0) else none) else
     (bif Nat.beq pc 22 then some (.ireturn, 1, 0, 0, 0, mj_u) else none))))
def m_L_takes : mj_M := (10000, method_18_code, 7, (some .int), 14, 6, 0, 0, 0, 0, 23, k_L_takes)
abbrev y_L_takes : MethodName := ⟨"WatershedMapLaw", "takes", "(LWatershedMap;IIII[J)I"⟩
abbrev h_L_takes : List (Nat × Nat × Nat × Nat) := [(0, 14, 17, 19)]
theorem ok_L_takes : mj_okB m_L_takes = true := by decide +kernel
theorem pl_L_takes : plainName y_L_takes.cls = true ∧ y_L_takes.cls = mM_own m_L_takes ∧ mj_ini m_L_takes = false := by decide +kernel
theorem ym_L_takes : y_L_takes.cls ≠ "java/lang/invoke/MethodHandle" ∧ y_L_takes.cls ≠ "java/lang/invoke/VarHandle" ∧ (parseMethodDescriptor y_L_takes.desc).map (fun d => d.parameters.length) = some (mM_np m_L_takes) := by decide +kernel
def k_L_way : Nat → Option mj_I := fun pc =>
  bif Nat.blt pc 15 then (bif Nat.blt pc 6 then (bif Nat.blt pc 3 then (bif Nat.blt pc 2 then (bif Nat.beq pc 0 then some (.aload 6, 2, 6, 0, 0, mj_u) else none) else
     (bif Nat.beq pc 2 then some (.iconst 0, 1, 0, 0, 0, .int 0) else none)) else
    (bif Nat.blt pc 4 then (bif Nat.beq pc 3 then some (.aload_n 0, 1, 0, 0, 0, mj_u) else none) else
     (bif Nat.blt pc 5 then (bif Nat.beq pc 4 then some (.iload_n 1, 1, 1, 0, 0, mj_u) else none) else
      (bif Nat.beq pc 5 then some (.iload_n 2, 1, 2, 0, 0, mj_u) else none)))) else
   (bif Nat.blt pc 9 then (bif Nat.blt pc 7 then (bif Nat.beq pc 6 then some (.iload_n 3, 1, 3, 0, 0, mj_u) else none) else
     (bif Nat.beq pc 7 then some (.iload 4, 2, 4, 0, 0, mj_u) else none)) else
    (bif Nat.blt pc 11 then (bif Nat.beq pc 9 then some (.iload 5, 2, 5, 0, 0, mj_u) else none) else
     (bif Nat.blt pc 14 then (bif Nat.beq pc 11 then some (.invokevirtual 67, 3, 105, 0, 842, mj_u) else none) else
      (bif Nat.beq pc 14 then some (.i2l, 1, 0, 0, 0, mj_u) else none))))) else
  (bif Nat.blt pc 23 then (bif Nat.blt pc 19 then (bif Nat.blt pc 16 then (bif Nat.beq pc 15 then some (.lastore, 1, 0, 0, 0, mj_u) else none) else
     (bif Nat.beq pc 16 then some (.goto 11, 3, 27, 0, 0, mj_u) else none)) else
    (bif Nat.blt pc 21 then (bif Nat.beq pc 19 then some (.astore 7, 2, 7, 0, 0, mj_u) else none) else
     (bif Nat.blt pc 22 then (bif Nat.beq pc 21 then some (.iconst 1, 1, 0, 0, 0, .int 1) else none) else
      (bif Nat.beq pc 22 then some (.ireturn, 1, 0, 0, 0, mj_u) else none)))) else
   (bif Nat.blt pc 26 then (bif Nat.blt pc 25 then (bif Nat.beq pc 23 then some (.astore 7, 2, 7, 0, 0, mj_u) else none) else
     (bif Nat.beq pc 25 then some (.iconst 2, 1, 0, 0, 0, .int 2) else none)) else
    (bif Nat.blt pc 27 then (bif Nat.beq pc 26 then some (.ireturn, 1, 0, 0, 0, mj_u) else none) else
     (bif Nat.blt pc 28 then (bif Nat.beq pc 27 then some (.iconst 0, 1, 0, 0, 0, .int 0) else none) else
      (bif Nat.beq pc 28 then some (.ireturn, 1, 0, 0, 0, mj_u) else none)))))
def m_L_way : mj_M := (10000, method_19_code, 8, (some .int), 14, 7, 0, 0, 0, 0, 29, k_L_way)
abbrev y_L_way : MethodName := ⟨"WatershedMapLaw", "way", "(LWatershedMap;IIIII[J)I"⟩
abbrev h_L_way : List (Nat × Nat × Nat × Nat) := [(0, 16, 19, 19), (0, 16, 23, 13)]
theorem ok_L_way : mj_okB m_L_way = true := by decide +kernel
theorem pl_L_way : plainName y_L_way.cls = true ∧ y_L_way.cls = mM_own m_L_way ∧ mj_ini m_L_way = false := by decide +kernel
theorem ym_L_way : y_L_way.cls ≠ "java/lang/invoke/MethodHandle" ∧ y_L_way.cls ≠ "java/lang/invoke/VarHandle" ∧ (parseMethodDescriptor y_L_way.desc).map (fun d => d.parameters.length) = some (mM_np m_L_way) := by decide +kernel
def k_L_volumeWith : Nat → Option mj_I := fun pc =>
  bif Nat.blt pc 12 then (bif Nat.blt pc 5 then (bif Nat.blt pc 3 then (bif Nat.blt pc 2 then (bif Nat.beq pc 0 then some (.aload 4, 2, 4, 0, 0, mj_u) else none) else
     (bif Nat.beq pc 2 then some (.iconst 0, 1, 0, 0, 0, .int 0) else none)) else
    (bif Nat.blt pc 4 then (bif Nat.beq pc 3 then some (.aload_n 0, 1, 0, 0, 0, mj_u) else none) else
     (bif Nat.beq pc 4 then some (.iload_n 1, 1, 1, 0, 0, mj_u) else none))) else
   (bif Nat.blt pc 7 then (bif Nat.blt pc 6 then (bif Nat.beq pc 5 then some (.iload_n 2, 1, 2, 0, 0, mj_u) else none) else
     (bif Nat.beq pc 6 then some (.iload_n 3, 1, 3, 0, 0, mj_u) else none)) else
    (bif Nat.blt pc 10 then (bif Nat.beq pc 7 then some (.invokevirtual 70, 3, 108, 0, 858, mj_u) else none) else
     (bif Nat.blt pc 11 then (bif Nat.beq pc 10 then some (.i2l, 1, 0, 0, 0, mj_u) else none) else
      (bif Nat.beq pc 11 then some (.lastore, 1, 0, 0, 0, mj_u) else none))))) else
  (bif Nat.blt pc 19 then (bif Nat.blt pc 17 then (bif Nat.blt pc 15 then (bif Nat.beq pc 12 then some (.goto 11, 3, 23, 0, 0, mj_u) else none) else
     (bif Nat.beq pc 15 then some (.astore 5, 2, 5, 0, 0, mj_u) else none)) else
    (bif Nat.blt pc 18 then (bif Nat.beq pc 17 then some (.iconst 1, 1, 0, 0, 0, .int 1) else none) else
     (bif Nat.beq pc 18 then some (.ireturn, 1, 0, 0, 0, mj_u) else none))) else
   (bif Nat.blt pc 22 then (bif Nat.blt pc 21 then (bif Nat.beq pc 19 then some (.astore 5, 2, 5, 0, 0, mj_u) else none) else
     (bif Nat.beq pc 21 then some (.iconst 2, 1, 0, 0, 0, .int 2) else none)) else
    (bif Nat.blt pc 23 then (bif Nat.beq pc 22 then some (.ireturn, 1, 0, 0, 0, mj_u) else none) else
     (bif Nat.blt pc 24 then (bif Nat.beq pc 23 then some (.iconst 0, 1, 0, 0, 0, .int 0) else none) else
      (bif Nat.beq pc 24 then some (.ireturn, 1, 0, 0, 0, mj_u) else none)))))
def m_L_volumeWith : mj_M := (10000, method_20_code, 6, (some .int), 14, 5, 0, 0, 0, 0, 25, k_L_volumeWith)
abbrev y_L_volumeWith : MethodName := ⟨"WatershedMapLaw", "volumeWith", "(LWatershedMap;III[J)I"⟩
abbrev h_L_volumeWith : List (Nat × Nat × Nat × Nat) := [(0, 12, 15, 19), (0, 12, 19, 13)]
theorem ok_L_volumeWith : mj_okB m_L_volumeWith = true := by decide +kernel
theorem pl_L_volumeWith : plainName y_L_volumeWith.cls = true ∧ y_L_volumeWith.cls = mM_own m_L_volumeWith ∧ mj_ini m_L_volumeWith = false := by decide +kernel
theorem ym_L_volumeWith : y_L_volumeWith.cls ≠ "java/lang/invoke/MethodHandle" ∧ y_L_volumeWith.cls ≠ "java/lang/invoke/VarHandle" ∧ (parseMethodDescriptor y_L_volumeWith.desc).map (fun d => d.parameters.length) = some (mM_np m_L_volumeWith) := by decide +kernel
def k_L_endsWith : Nat → Option mj_I := fun pc =>
  bif Nat.blt pc 12 then (bif Nat.blt pc 5 then (bif Nat.blt pc 3 then (bif Nat.blt pc 2 then (bif Nat.beq pc 0 then some (.aload 4, 2, 4, 0, 0, mj_u) else none) else
     (bif Nat.beq pc 2 then some (.iconst 0, 1, 0, 0, 0, .int 0) else none)) else
    (bif Nat.blt pc 4 then (bif Nat.beq pc 3 then some (.aload_n 0, 1, 0, 0, 0, mj_u) else none) else
     (bif Nat.beq pc 4 then some (.iload_n 1, 1, 1, 0, 0, mj_u) else none))) else
   (bif Nat.blt pc 7 then (bif Nat.blt pc 6 then (bif Nat.beq pc 5 then some (.iload_n 2, 1, 2, 0, 0, mj_u) else none) else
     (bif Nat.beq pc 6 then some (.iload_n 3, 1, 3, 0, 0, mj_u) else none)) else
    (bif Nat.blt pc 10 then (bif Nat.beq pc 7 then some (.invokevirtual 73, 3, 109, 0, 865, mj_u) else none) else
     (bif Nat.blt pc 11 then (bif Nat.beq pc 10 then some (.i2l, 1, 0, 0, 0, mj_u) else none) else
      (bif Nat.beq pc 11 then some (.lastore, 1, 0, 0, 0, mj_u) else none))))) else
  (bif Nat.blt pc 19 then (bif Nat.blt pc 17 then (bif Nat.blt pc 15 then (bif Nat.beq pc 12 then some (.goto 11, 3, 23, 0, 0, mj_u) else none) else
     (bif Nat.beq pc 15 then some (.astore 5, 2, 5, 0, 0, mj_u) else none)) else
    (bif Nat.blt pc 18 then (bif Nat.beq pc 17 then some (.iconst 1, 1, 0, 0, 0, .int 1) else none) else
     (bif Nat.beq pc 18 then some (.ireturn, 1, 0, 0, 0, mj_u) else none))) else
   (bif Nat.blt pc 22 then (bif Nat.blt pc 21 then (bif Nat.beq pc 19 then some (.astore 5, 2, 5, 0, 0, mj_u) else none) else
     (bif Nat.beq pc 21 then some (.iconst 2, 1, 0, 0, 0, .int 2) else none)) else
    (bif Nat.blt pc 23 then (bif Nat.beq pc 22 then some (.ireturn, 1, 0, 0, 0, mj_u) else none) else
     (bif Nat.blt pc 24 then (bif Nat.beq pc 23 then some (.iconst 0, 1, 0, 0, 0, .int 0) else none) else
      (bif Nat.beq pc 24 then some (.ireturn, 1, 0, 0, 0, mj_u) else none)))))
def m_L_endsWith : mj_M := (10000, method_21_code, 6, (some .int), 14, 5, 0, 0, 0, 0, 25, k_L_endsWith)
abbrev y_L_endsWith : MethodName := ⟨"WatershedMapLaw", "endsWith", "(LWatershedMap;III[J)I"⟩
abbrev h_L_endsWith : List (Nat × Nat × Nat × Nat) := [(0, 12, 15, 19), (0, 12, 19, 13)]
theorem ok_L_endsWith : mj_okB m_L_endsWith = true := by decide +kernel
theorem pl_L_endsWith : plainName y_L_endsWith.cls = true ∧ y_L_endsWith.cls = mM_own m_L_endsWith ∧ mj_ini m_L_endsWith = false := by decide +kernel
theorem ym_L_endsWith : y_L_endsWith.cls ≠ "java/lang/invoke/MethodHandle" ∧ y_L_endsWith.cls ≠ "java/lang/invoke/VarHandle" ∧ (parseMethodDescriptor y_L_endsWith.desc).map (fun d => d.parameters.length) = some (mM_np m_L_endsWith) := by decide +kernel
def k_L_lookout : Nat → Option mj_I := fun pc =>
  bif Nat.blt pc 10 then (bif Nat.blt pc 4 then (bif Nat.blt pc 2 then (bif Nat.blt pc 1 then (bif Nat.beq pc 0 then some (.aload_n 3, 1, 3, 0, 0, mj_u) else none) else
     (bif Nat.beq pc 1 then some (.iconst 0, 1, 0, 0, 0, .int 0) else none)) else
    (bif Nat.blt pc 3 then (bif Nat.beq pc 2 then some (.aload_n 0, 1, 0, 0, 0, mj_u) else none) else
     (bif Nat.beq pc 3 then some (.iload_n 1, 1, 1, 0, 0, mj_u) else none))) else
   (bif Nat.blt pc 8 then (bif Nat.blt pc 5 then (bif Nat.beq pc 4 then some (.iload_n 2, 1, 2, 0, 0, mj_u) else none) else
     (bif Nat.beq pc 5 then some (.invokevirtual 76, 3, 110, 0, 875, mj_u) else none)) else
    (bif Nat.blt pc 9 then (bif Nat.beq pc 8 then some (.i2l, 1, 0, 0, 0, mj_u) else none) else
     (bif Nat.beq pc 9 then some (.lastore, 1, 0, 0, 0, mj_u) else none)))) else
  (bif Nat.blt pc 17 then (bif Nat.blt pc 15 then (bif Nat.blt pc 13 then (bif Nat.beq pc 10 then some (.goto 11, 3, 21, 0, 0, mj_u) else none) else
     (bif Nat.beq pc 13 then some (.astore 4, 2, 4, 0, 0, mj_u) else none)) else
    (bif Nat.blt pc 16 then (bif Nat.beq pc 15 then some (.iconst 1, 1, 0, 0, 0, .int 1) else none) else
     (bif Nat.beq pc 16 then some (.ireturn, 1, 0, 0, 0, mj_u) else none))) else
   (bif Nat.blt pc 20 then (bif Nat.blt pc 19 then (bif Nat.beq pc 17 then some (.astore 4, 2, 4, 0, 0, mj_u) else none) else
     (bif Nat.beq pc 19 then some (.iconst 2, 1, 0, 0, 0, .int 2) else none)) else
    (bif Nat.blt pc 21 then (bif Nat.beq pc 20 then some (.ireturn, 1, 0, 0, 0, mj_u) else none) else
     (bif Nat.blt pc 22 then (bif Nat.beq pc 21 then some (.iconst 0, 1, 0, 0, 0, .int 0) else none) else
      (bif Nat.beq pc 22 then some (.ireturn, 1, 0, 0, 0, mj_u) else none)))))
def m_L_lookout : mj_M := (10000, method_22_code, 5, (some .int), 14, 4, 0, 0, 0, 0, 23, k_L_lookout)
abbrev y_L_lookout : MethodName := ⟨"WatershedMapLaw", "lookout", "(LWatershedMap;II[J)I"⟩
abbrev h_L_lookout : List (Nat × Nat × Nat × Nat) := [(0, 10, 13, 19), (0, 10, 17, 13)]
theorem ok_L_lookout : mj_okB m_L_lookout = true := by decide +kernel
theorem pl_L_lookout : plainName y_L_lookout.cls = true ∧ y_L_lookout.cls = mM_own m_L_lookout ∧ mj_ini m_L_lookout = false := by decide +kernel
theorem ym_L_lookout : y_L_lookout.cls ≠ "java/lang/invoke/MethodHandle" ∧ y_L_lookout.cls ≠ "java/lang/invoke/VarHandle" ∧ (parseMethodDescriptor y_L_lookout.desc).map (fun d => d.parameters.length) = some (mM_np m_L_lookout) := by decide +kernel
def k_law_0 : Nat → Option mj_I := fun pc =>
  bif Nat.blt pc 21 then (bif Nat.blt pc 12 then (bif Nat.blt pc 7 then (bif Nat.blt pc 3 then (bif Nat.beq pc 0 then some (.new 8, 3, 8, 74, 73, mj_u) else none) else
     (bif Nat.blt pc 4 then (bif Nat.beq pc 3 then some (.dup, 1, 0, 0, 0, mj_u) else none) else
      (bif Nat.beq pc 4 then some (.invokespecial 79, 3, 0, 0, 75, mj_u) else none))) else
    (bif Nat.blt pc 8 then (bif Nat.beq pc 7 then some (.astore_n 1, 1, 1, 0, 0, mj_u) else none) else
     (bif Nat.blt pc 11 then (bif Nat.beq pc 8 then some (.new 80, 3, 10, 880, 879, mj_u) else none) else
      (bif Nat.beq pc 11 then some (.dup, 1, 0, 0, 0, mj_u) else none)))) else
   (bif Nat.blt pc 17 then (bif Nat.blt pc 15 then (bif Nat.beq pc 12 then some (.invokespecial 82, 3, 111, 0, 881, mj_u) else none) else
     (bif Nat.blt pc 16 then (bif Nat.beq pc 15 then some (.astore_n 2, 1, 2, 0, 0, mj_u) else none) else
      (bif Nat.beq pc 16 then some (.iconst 1, 1, 0, 0, 0, .int 1) else none))) else
    (bif Nat.blt pc 19 then (bif Nat.beq pc 17 then some (.newarray .long, 2, 0, 0, 0, mj_u) else none) else
     (bif Nat.blt pc 20 then (bif Nat.beq pc 19 then some (.astore_n 3, 1, 3, 0, 0, mj_u) else none) else
      (bif Nat.beq pc 20 then some (.iconst 0, 1, 0, 0, 0, .int 0) else none))))) else
  (bif Nat.blt pc 30 then (bif Nat.blt pc 26 then (bif Nat.blt pc 23 then (bif Nat.beq pc 21 then some (.istore 4, 2, 4, 0, 0, mj_u) else none) else
     (bif Nat.blt pc 25 then (bif Nat.beq pc 23 then some (.iload 4, 2, 4, 0, 0, mj_u) else none) else
      (bif Nat.beq pc 25 then some (.aload_n 0, 1, 0, 0, 0, mj_u) else none))) else
    (bif Nat.blt pc 27 then (bif Nat.beq pc 26 then some (.arraylength, 1, 0, 0, 0, mj_u) else none) else
     (bif Nat.blt pc 29 then (bif Nat.beq pc 27 then some (.bipush 6, 2, 0, 0, 0, .int 6) else none) else
      (bif Nat.beq pc 29 then some (.isub, 1, 0, 0, 0, mj_u) else none)))) else
   (bif Nat.blt pc 36 then (bif Nat.blt pc 33 then (bif Nat.beq pc 30 then some (.if_icmp .gt 1882, 3, 1912, 0, 0, mj_u) else none) else
     (bif Nat.blt pc 34 then (bif Nat.beq pc 33 then some (.aload_n 0, 1, 0, 0, 0, mj_u) else none) else
      (bif Nat.beq pc 34 then some (.iload 4, 2, 4, 0, 0, mj_u) else none))) else
    (bif Nat.blt pc 39 then (bif Nat.blt pc 37 then (bif Nat.beq pc 36 then some (.iaload, 1, 0, 0, 0, mj_u) else none) else
      (bif Nat.beq pc 37 then some (.bipush 31, 2, 0, 0, 0, .int 31) else none)) else
     (bif Nat.blt pc 40 then (bif Nat.beq pc 39 then some (.iand, 1, 0, 0, 0, mj_u) else none) else
      (bif Nat.beq pc 40 then some (.tableswitch 1866 0 29 #[136, 204, 284, 364, 456, 560, 573, 629, 642, 698, 754, 822, 902, 915, 928, 941, 954, 1022, 1035, 1115, 1128, 1196, 1307, 1387, 1479, 1583, 1624, 1704, 1784, 1852], 136, 1906, 0, 0, mj_u) else none)))))
def k_law_176 : Nat → Option mj_I := fun pc =>
  bif Nat.blt pc 205 then (bif Nat.blt pc 189 then (bif Nat.blt pc 182 then (bif Nat.blt pc 178 then (bif Nat.blt pc 177 then (bif Nat.beq pc 176 then some (.aload_n 1, 1, 1, 0, 0, mj_u) else none) else
      (bif Nat.beq pc 177 then some (.aload_n 0, 1, 0, 0, 0, mj_u) else none)) else
     (bif Nat.blt pc 180 then (bif Nat.beq pc 178 then some (.iload 4, 2, 4, 0, 0, mj_u) else none) else
      (bif Nat.blt pc 181 then (bif Nat.beq pc 180 then some (.iconst 1, 1, 0, 0, 0, .int 1) else none) else
       (bif Nat.beq pc 181 then some (.iadd, 1, 0, 0, 0, mj_u) else none)))) else
    (bif Nat.blt pc 186 then (bif Nat.blt pc 183 then (bif Nat.beq pc 182 then some (.iaload, 1, 0, 0, 0, mj_u) else none) else
      (bif Nat.blt pc 184 then (bif Nat.beq pc 183 then some (.aload_n 0, 1, 0, 0, 0, mj_u) else none) else
       (bif Nat.beq pc 184 then some (.iload 4, 2, 4, 0, 0, mj_u) else none))) else
     (bif Nat.blt pc 187 then (bif Nat.beq pc 186 then some (.iconst 2, 1, 0, 0, 0, .int 2) else none) else
      (bif Nat.blt pc 188 then (bif Nat.beq pc 187 then some (.iadd, 1, 0, 0, 0, mj_u) else none) else
       (bif Nat.beq pc 188 then some (.iaload, 1, 0, 0, 0, mj_u) else none))))) else
   (bif Nat.blt pc 197 then (bif Nat.blt pc 193 then (bif Nat.blt pc 190 then (bif Nat.beq pc 189 then some (.aload_n 3, 1, 3, 0, 0, mj_u) else none) else
      (bif Nat.beq pc 190 then some (.invokestatic 83, 3, 1002, 0, 561, mj_u) else none)) else
     (bif Nat.blt pc 195 then (bif Nat.beq pc 193 then some (.istore 5, 2, 5, 0, 0, mj_u) else none) else
      (bif Nat.blt pc 196 then (bif Nat.beq pc 195 then some (.aload_n 2, 1, 2, 0, 0, mj_u) else none) else
       (bif Nat.beq pc 196 then some (.aload_n 0, 1, 0, 0, 0, mj_u) else none)))) else
    (bif Nat.blt pc 201 then (bif Nat.blt pc 199 then (bif Nat.beq pc 197 then some (.iload 4, 2, 4, 0, 0, mj_u) else none) else
      (bif Nat.blt pc 200 then (bif Nat.beq pc 199 then some (.iconst 1, 1, 0, 0, 0, .int 1) else none) else
       (bif Nat.beq pc 200 then some (.iadd, 1, 0, 0, 0, mj_u) else none))) else
     (bif Nat.blt pc 202 then (bif Nat.beq pc 201 then some (.iaload, 1, 0, 0, 0, mj_u) else none) else
      (bif Nat.blt pc 203 then (bif Nat.beq pc 202 then some (.aload_n 0, 1, 0, 0, 0, mj_u) else none) else
       (bif Nat.beq pc 203 then some (.iload 4, 2, 4, 0, 0, mj_u) else none)))))) else
  (bif Nat.blt pc 224 then (bif Nat.blt pc 213 then (bif Nat.blt pc 207 then (bif Nat.blt pc 206 then (bif Nat.beq pc 205 then some (.iconst 2, 1, 0, 0, 0, .int 2) else none) else
      (bif Nat.beq pc 206 then some (.iadd, 1, 0, 0, 0, mj_u) else none)) else
     (bif Nat.blt pc 208 then (bif Nat.beq pc 207 then some (.iaload, 1, 0, 0, 0, mj_u) else none) else
      (bif Nat.blt pc 211 then (bif Nat.beq pc 208 then some (.invokevirtual 88, 3, 114, 0, 918, mj_u) else none) else
       (bif Nat.beq pc 211 then some (.istore 6, 2, 6, 0, 0, mj_u) else none)))) else
    (bif Nat.blt pc 219 then (bif Nat.blt pc 214 then (bif Nat.beq pc 213 then some (.aload_n 2, 1, 2, 0, 0, mj_u) else none) else
      (bif Nat.blt pc 217 then (bif Nat.beq pc 214 then some (.invokevirtual 89, 3, 113, 0, 914, mj_u) else none) else
       (bif Nat.beq pc 217 then some (.iload 5, 2, 5, 0, 0, mj_u) else none))) else
     (bif Nat.blt pc 222 then (bif Nat.beq pc 219 then some (.if_icmp .eq 5, 3, 224, 0, 0, mj_u) else none) else
      (bif Nat.blt pc 223 then (bif Nat.beq pc 222 then some (.iconst 0, 1, 0, 0, 0, .int 0) else none) else
       (bif Nat.beq pc 223 then some (.ireturn, 1, 0, 0, 0, mj_u) else none))))) else
   (bif Nat.blt pc 234 then (bif Nat.blt pc 230 then (bif Nat.blt pc 226 then (bif Nat.beq pc 224 then some (.iload 5, 2, 5, 0, 0, mj_u) else none) else
      (bif Nat.blt pc 229 then (bif Nat.beq pc 226 then some (.ifCond .ne 15, 3, 241, 0, 0, mj_u) else none) else
       (bif Nat.beq pc 229 then some (.aload_n 3, 1, 3, 0, 0, mj_u) else none))) else
     (bif Nat.blt pc 231 then (bif Nat.beq pc 230 then some (.iconst 0, 1, 0, 0, 0, .int 0) else none) else
      (bif Nat.blt pc 232 then (bif Nat.beq pc 231 then some (.laload, 1, 0, 0, 0, mj_u) else none) else
       (bif Nat.beq pc 232 then some (.iload 6, 2, 6, 0, 0, mj_u) else none)))) else
    (bif Nat.blt pc 239 then (bif Nat.blt pc 235 then (bif Nat.beq pc 234 then some (.i2l, 1, 0, 0, 0, mj_u) else none) else
      (bif Nat.blt pc 236 then (bif Nat.beq pc 235 then some (.lcmp, 1, 0, 0, 0, mj_u) else none) else
       (bif Nat.beq pc 236 then some (.ifCond .eq 5, 3, 241, 0, 0, mj_u) else none))) else
     (bif Nat.blt pc 240 then (bif Nat.beq pc 239 then some (.iconst 0, 1, 0, 0, 0, .int 0) else none) else
      (bif Nat.blt pc 241 then (bif Nat.beq pc 240 then some (.ireturn, 1, 0, 0, 0, mj_u) else none) else
       (bif Nat.beq pc 241 then some (.goto 1665, 3, 1906, 0, 0, mj_u) else none))))))
def k_law_244 : Nat → Option mj_I := fun pc =>
  bif Nat.blt pc 279 then (bif Nat.blt pc 260 then (bif Nat.blt pc 251 then (bif Nat.blt pc 248 then (bif Nat.blt pc 245 then (bif Nat.beq pc 244 then some (.aload_n 1, 1, 1, 0, 0, mj_u) else none) else
      (bif Nat.blt pc 246 then (bif Nat.beq pc 245 then some (.aload_n 0, 1, 0, 0, 0, mj_u) else none) else
       (bif Nat.beq pc 246 then some (.iload 4, 2, 4, 0, 0, mj_u) else none))) else
     (bif Nat.blt pc 249 then (bif Nat.beq pc 248 then some (.iconst 1, 1, 0, 0, 0, .int 1) else none) else
      (bif Nat.blt pc 250 then (bif Nat.beq pc 249 then some (.iadd, 1, 0, 0, 0, mj_u) else none) else
       (bif Nat.beq pc 250 then some (.iaload, 1, 0, 0, 0, mj_u) else none)))) else
    (bif Nat.blt pc 255 then (bif Nat.blt pc 252 then (bif Nat.beq pc 251 then some (.aload_n 0, 1, 0, 0, 0, mj_u) else none) else
      (bif Nat.blt pc 254 then (bif Nat.beq pc 252 then some (.iload 4, 2, 4, 0, 0, mj_u) else none) else
       (bif Nat.beq pc 254 then some (.iconst 2, 1, 0, 0, 0, .int 2) else none))) else
     (bif Nat.blt pc 257 then (bif Nat.blt pc 256 then (bif Nat.beq pc 255 then some (.iadd, 1, 0, 0, 0, mj_u) else none) else
       (bif Nat.beq pc 256 then some (.iaload, 1, 0, 0, 0, mj_u) else none)) else
      (bif Nat.blt pc 258 then (bif Nat.beq pc 257 then some (.aload_n 0, 1, 0, 0, 0, mj_u) else none) else
       (bif Nat.beq pc 258 then some (.iload 4, 2, 4, 0, 0, mj_u) else none))))) else
   (bif Nat.blt pc 270 then (bif Nat.blt pc 263 then (bif Nat.blt pc 261 then (bif Nat.beq pc 260 then some (.iconst 3, 1, 0, 0, 0, .int 3) else none) else
      (bif Nat.blt pc 262 then (bif Nat.beq pc 261 then some (.iadd, 1, 0, 0, 0, mj_u) else none) else
       (bif Nat.beq pc 262 then some (.iaload, 1, 0, 0, 0, mj_u) else none))) else
     (bif Nat.blt pc 267 then (bif Nat.blt pc 264 then (bif Nat.beq pc 263 then some (.aload_n 3, 1, 3, 0, 0, mj_u) else none) else
       (bif Nat.beq pc 264 then some (.invokestatic 93, 3, 1002, 0, 639, mj_u) else none)) else
      (bif Nat.blt pc 269 then (bif Nat.beq pc 267 then some (.istore 5, 2, 5, 0, 0, mj_u) else none) else
       (bif Nat.beq pc 269 then some (.aload_n 2, 1, 2, 0, 0, mj_u) else none)))) else
    (bif Nat.blt pc 274 then (bif Nat.blt pc 271 then (bif Nat.beq pc 270 then some (.aload_n 0, 1, 0, 0, 0, mj_u) else none) else
      (bif Nat.blt pc 273 then (bif Nat.beq pc 271 then some (.iload 4, 2, 4, 0, 0, mj_u) else none) else
       (bif Nat.beq pc 273 then some (.iconst 1, 1, 0, 0, 0, .int 1) else none))) else
     (bif Nat.blt pc 276 then (bif Nat.blt pc 275 then (bif Nat.beq pc 274 then some (.iadd, 1, 0, 0, 0, mj_u) else none) else
       (bif Nat.beq pc 275 then some (.iaload, 1, 0, 0, 0, mj_u) else none)) else
      (bif Nat.blt pc 277 then (bif Nat.beq pc 276 then some (.aload_n 0, 1, 0, 0, 0, mj_u) else none) else
       (bif Nat.beq pc 277 then some (.iload 4, 2, 4, 0, 0, mj_u) else none)))))) else
  (bif Nat.blt pc 302 then (bif Nat.blt pc 287 then (bif Nat.blt pc 282 then (bif Nat.blt pc 280 then (bif Nat.beq pc 279 then some (.iconst 2, 1, 0, 0, 0, .int 2) else none) else
      (bif Nat.blt pc 281 then (bif Nat.beq pc 280 then some (.iadd, 1, 0, 0, 0, mj_u) else none) else
       (bif Nat.beq pc 281 then some (.iaload, 1, 0, 0, 0, mj_u) else none))) else
     (bif Nat.blt pc 285 then (bif Nat.blt pc 283 then (bif Nat.beq pc 282 then some (.aload_n 0, 1, 0, 0, 0, mj_u) else none) else
       (bif Nat.beq pc 283 then some (.iload 4, 2, 4, 0, 0, mj_u) else none)) else
      (bif Nat.blt pc 286 then (bif Nat.beq pc 285 then some (.iconst 3, 1, 0, 0, 0, .int 3) else none) else
       (bif Nat.beq pc 286 then some (.iadd, 1, 0, 0, 0, mj_u) else none)))) else
    (bif Nat.blt pc 293 then (bif Nat.blt pc 288 then (bif Nat.beq pc 287 then some (.iaload, 1, 0, 0, 0, mj_u) else none) else
      (bif Nat.blt pc 291 then (bif Nat.beq pc 288 then some (.invokevirtual 96, 3, 118, 0, 933, mj_u) else none) else
       (bif Nat.beq pc 291 then some (.istore 6, 2, 6, 0, 0, mj_u) else none))) else
     (bif Nat.blt pc 297 then (bif Nat.blt pc 294 then (bif Nat.beq pc 293 then some (.aload_n 2, 1, 2, 0, 0, mj_u) else none) else
       (bif Nat.beq pc 294 then some (.invokevirtual 89, 3, 113, 0, 914, mj_u) else none)) else
      (bif Nat.blt pc 299 then (bif Nat.beq pc 297 then some (.iload 5, 2, 5, 0, 0, mj_u) else none) else
       (bif Nat.beq pc 299 then some (.if_icmp .eq 5, 3, 304, 0, 0, mj_u) else none))))) else
   (bif Nat.blt pc 312 then (bif Nat.blt pc 306 then (bif Nat.blt pc 303 then (bif Nat.beq pc 302 then some (.iconst 0, 1, 0, 0, 0, .int 0) else none) else
      (bif Nat.blt pc 304 then (bif Nat.beq pc 303 then some (.ireturn, 1, 0, 0, 0, mj_u) else none) else
       (bif Nat.beq pc 304 then some (.iload 5, 2, 5, 0, 0, mj_u) else none))) else
     (bif Nat.blt pc 310 then (bif Nat.blt pc 309 then (bif Nat.beq pc 306 then some (.ifCond .ne 15, 3, 321, 0, 0, mj_u) else none) else
       (bif Nat.beq pc 309 then some (.aload_n 3, 1, 3, 0, 0, mj_u) else none)) else
      (bif Nat.blt pc 311 then (bif Nat.beq pc 310 then some (.iconst 0, 1, 0, 0, 0, .int 0) else none) else
       (bif Nat.beq pc 311 then some (.laload, 1, 0, 0, 0, mj_u) else none)))) else
    (bif Nat.blt pc 316 then (bif Nat.blt pc 314 then (bif Nat.beq pc 312 then some (.iload 6, 2, 6, 0, 0, mj_u) else none) else
      (bif Nat.blt pc 315 then (bif Nat.beq pc 314 then some (.i2l, 1, 0, 0, 0, mj_u) else none) else
       (bif Nat.beq pc 315 then some (.lcmp, 1, 0, 0, 0, mj_u) else none))) else
     (bif Nat.blt pc 320 then (bif Nat.blt pc 319 then (bif Nat.beq pc 316 then some (.ifCond .eq 5, 3, 321, 0, 0, mj_u) else none) else
       (bif Nat.beq pc 319 then some (.iconst 0, 1, 0, 0, 0, .int 0) else none)) else
      (bif Nat.blt pc 321 then (bif Nat.beq pc 320 then some (.ireturn, 1, 0, 0, 0, mj_u) else none) else
       (bif Nat.beq pc 321 then some (.goto 1585, 3, 1906, 0, 0, mj_u) else none))))))
def k_law_324 : Nat → Option mj_I := fun pc =>
  bif Nat.blt pc 359 then (bif Nat.blt pc 340 then (bif Nat.blt pc 331 then (bif Nat.blt pc 328 then (bif Nat.blt pc 325 then (bif Nat.beq pc 324 then some (.aload_n 1, 1, 1, 0, 0, mj_u) else none) else
      (bif Nat.blt pc 326 then (bif Nat.beq pc 325 then some (.aload_n 0, 1, 0, 0, 0, mj_u) else none) else
       (bif Nat.beq pc 326 then some (.iload 4, 2, 4, 0, 0, mj_u) else none))) else
     (bif Nat.blt pc 329 then (bif Nat.beq pc 328 then some (.iconst 1, 1, 0, 0, 0, .int 1) else none) else
      (bif Nat.blt pc 330 then (bif Nat.beq pc 329 then some (.iadd, 1, 0, 0, 0, mj_u) else none) else
       (bif Nat.beq pc 330 then some (.iaload, 1, 0, 0, 0, mj_u) else none)))) else
    (bif Nat.blt pc 335 then (bif Nat.blt pc 332 then (bif Nat.beq pc 331 then some (.aload_n 0, 1, 0, 0, 0, mj_u) else none) else
      (bif Nat.blt pc 334 then (bif Nat.beq pc 332 then some (.iload 4, 2, 4, 0, 0, mj_u) else none) else
       (bif Nat.beq pc 334 then some (.iconst 2, 1, 0, 0, 0, .int 2) else none))) else
     (bif Nat.blt pc 337 then (bif Nat.blt pc 336 then (bif Nat.beq pc 335 then some (.iadd, 1, 0, 0, 0, mj_u) else none) else
       (bif Nat.beq pc 336 then some (.iaload, 1, 0, 0, 0, mj_u) else none)) else
      (bif Nat.blt pc 338 then (bif Nat.beq pc 337 then some (.aload_n 0, 1, 0, 0, 0, mj_u) else none) else
       (bif Nat.beq pc 338 then some (.iload 4, 2, 4, 0, 0, mj_u) else none))))) else
   (bif Nat.blt pc 350 then (bif Nat.blt pc 343 then (bif Nat.blt pc 341 then (bif Nat.beq pc 340 then some (.iconst 3, 1, 0, 0, 0, .int 3) else none) else
      (bif Nat.blt pc 342 then (bif Nat.beq pc 341 then some (.iadd, 1, 0, 0, 0, mj_u) else none) else
       (bif Nat.beq pc 342 then some (.iaload, 1, 0, 0, 0, mj_u) else none))) else
     (bif Nat.blt pc 347 then (bif Nat.blt pc 344 then (bif Nat.beq pc 343 then some (.aload_n 3, 1, 3, 0, 0, mj_u) else none) else
       (bif Nat.beq pc 344 then some (.invokestatic 97, 3, 1002, 0, 670, mj_u) else none)) else
      (bif Nat.blt pc 349 then (bif Nat.beq pc 347 then some (.istore 5, 2, 5, 0, 0, mj_u) else none) else
       (bif Nat.beq pc 349 then some (.aload_n 2, 1, 2, 0, 0, mj_u) else none)))) else
    (bif Nat.blt pc 354 then (bif Nat.blt pc 351 then (bif Nat.beq pc 350 then some (.aload_n 0, 1, 0, 0, 0, mj_u) else none) else
      (bif Nat.blt pc 353 then (bif Nat.beq pc 351 then some (.iload 4, 2, 4, 0, 0, mj_u) else none) else
       (bif Nat.beq pc 353 then some (.iconst 1, 1, 0, 0, 0, .int 1) else none))) else
     (bif Nat.blt pc 356 then (bif Nat.blt pc 355 then (bif Nat.beq pc 354 then some (.iadd, 1, 0, 0, 0, mj_u) else none) else
       (bif Nat.beq pc 355 then some (.iaload, 1, 0, 0, 0, mj_u) else none)) else
      (bif Nat.blt pc 357 then (bif Nat.beq pc 356 then some (.aload_n 0, 1, 0, 0, 0, mj_u) else none) else
       (bif Nat.beq pc 357 then some (.iload 4, 2, 4, 0, 0, mj_u) else none)))))) else
  (bif Nat.blt pc 382 then (bif Nat.blt pc 367 then (bif Nat.blt pc 362 then (bif Nat.blt pc 360 then (bif Nat.beq pc 359 then some (.iconst 2, 1, 0, 0, 0, .int 2) else none) else
      (bif Nat.blt pc 361 then (bif Nat.beq pc 360 then some (.iadd, 1, 0, 0, 0, mj_u) else none) else
       (bif Nat.beq pc 361 then some (.iaload, 1, 0, 0, 0, mj_u) else none))) else
     (bif Nat.blt pc 365 then (bif Nat.blt pc 363 then (bif Nat.beq pc 362 then some (.aload_n 0, 1, 0, 0, 0, mj_u) else none) else
       (bif Nat.beq pc 363 then some (.iload 4, 2, 4, 0, 0, mj_u) else none)) else
      (bif Nat.blt pc 366 then (bif Nat.beq pc 365 then some (.iconst 3, 1, 0, 0, 0, .int 3) else none) else
       (bif Nat.beq pc 366 then some (.iadd, 1, 0, 0, 0, mj_u) else none)))) else
    (bif Nat.blt pc 373 then (bif Nat.blt pc 368 then (bif Nat.beq pc 367 then some (.iaload, 1, 0, 0, 0, mj_u) else none) else
      (bif Nat.blt pc 371 then (bif Nat.beq pc 368 then some (.invokevirtual 99, 3, 123, 0, 962, mj_u) else none) else
       (bif Nat.beq pc 371 then some (.istore 6, 2, 6, 0, 0, mj_u) else none))) else
     (bif Nat.blt pc 377 then (bif Nat.blt pc 374 then (bif Nat.beq pc 373 then some (.aload_n 2, 1, 2, 0, 0, mj_u) else none) else
       (bif Nat.beq pc 374 then some (.invokevirtual 89, 3, 113, 0, 914, mj_u) else none)) else
      (bif Nat.blt pc 379 then (bif Nat.beq pc 377 then some (.iload 5, 2, 5, 0, 0, mj_u) else none) else
       (bif Nat.beq pc 379 then some (.if_icmp .eq 5, 3, 384, 0, 0, mj_u) else none))))) else
   (bif Nat.blt pc 392 then (bif Nat.blt pc 386 then (bif Nat.blt pc 383 then (bif Nat.beq pc 382 then some (.iconst 0, 1, 0, 0, 0, .int 0) else none) else
      (bif Nat.blt pc 384 then (bif Nat.beq pc 383 then some (.ireturn, 1, 0, 0, 0, mj_u) else none) else
       (bif Nat.beq pc 384 then some (.iload 5, 2, 5, 0, 0, mj_u) else none))) else
     (bif Nat.blt pc 390 then (bif Nat.blt pc 389 then (bif Nat.beq pc 386 then some (.ifCond .ne 15, 3, 401, 0, 0, mj_u) else none) else
       (bif Nat.beq pc 389 then some (.aload_n 3, 1, 3, 0, 0, mj_u) else none)) else
      (bif Nat.blt pc 391 then (bif Nat.beq pc 390 then some (.iconst 0, 1, 0, 0, 0, .int 0) else none) else
       (bif Nat.beq pc 391 then some (.laload, 1, 0, 0, 0, mj_u) else none)))) else
    (bif Nat.blt pc 396 then (bif Nat.blt pc 394 then (bif Nat.beq pc 392 then some (.iload 6, 2, 6, 0, 0, mj_u) else none) else
      (bif Nat.blt pc 395 then (bif Nat.beq pc 394 then some (.i2l, 1, 0, 0, 0, mj_u) else none) else
       (bif Nat.beq pc 395 then some (.lcmp, 1, 0, 0, 0, mj_u) else none))) else
     (bif Nat.blt pc 400 then (bif Nat.blt pc 399 then (bif Nat.beq pc 396 then some (.ifCond .eq 5, 3, 401, 0, 0, mj_u) else none) else
       (bif Nat.beq pc 399 then some (.iconst 0, 1, 0, 0, 0, .int 0) else none)) else
      (bif Nat.blt pc 401 then (bif Nat.beq pc 400 then some (.ireturn, 1, 0, 0, 0, mj_u) else none) else
       (bif Nat.beq pc 401 then some (.goto 1505, 3, 1906, 0, 0, mj_u) else none))))))
def k_law_404 : Nat → Option mj_I := fun pc =>
  bif Nat.blt pc 445 then (bif Nat.blt pc 423 then (bif Nat.blt pc 414 then (bif Nat.blt pc 409 then (bif Nat.blt pc 406 then (bif Nat.blt pc 405 then (bif Nat.beq pc 404 then some (.aload_n 1, 1, 1, 0, 0, mj_u) else none) else
       (bif Nat.beq pc 405 then some (.aload_n 0, 1, 0, 0, 0, mj_u) else none)) else
      (bif Nat.blt pc 408 then (bif Nat.beq pc 406 then some (.iload 4, 2, 4, 0, 0, mj_u) else none) else
       (bif Nat.beq pc 408 then some (.iconst 1, 1, 0, 0, 0, .int 1) else none))) else
     (bif Nat.blt pc 411 then (bif Nat.blt pc 410 then (bif Nat.beq pc 409 then some (.iadd, 1, 0, 0, 0, mj_u) else none) else
       (bif Nat.beq pc 410 then some (.iaload, 1, 0, 0, 0, mj_u) else none)) else
      (bif Nat.blt pc 412 then (bif Nat.beq pc 411 then some (.aload_n 0, 1, 0, 0, 0, mj_u) else none) else
       (bif Nat.beq pc 412 then some (.iload 4, 2, 4, 0, 0, mj_u) else none)))) else
    (bif Nat.blt pc 418 then (bif Nat.blt pc 416 then (bif Nat.blt pc 415 then (bif Nat.beq pc 414 then some (.iconst 2, 1, 0, 0, 0, .int 2) else none) else
       (bif Nat.beq pc 415 then some (.iadd, 1, 0, 0, 0, mj_u) else none)) else
      (bif Nat.blt pc 417 then (bif Nat.beq pc 416 then some (.iaload, 1, 0, 0, 0, mj_u) else none) else
       (bif Nat.beq pc 417 then some (.aload_n 0, 1, 0, 0, 0, mj_u) else none))) else
     (bif Nat.blt pc 421 then (bif Nat.blt pc 420 then (bif Nat.beq pc 418 then some (.iload 4, 2, 4, 0, 0, mj_u) else none) else
       (bif Nat.beq pc 420 then some (.iconst 3, 1, 0, 0, 0, .int 3) else none)) else
      (bif Nat.blt pc 422 then (bif Nat.beq pc 421 then some (.iadd, 1, 0, 0, 0, mj_u) else none) else
       (bif Nat.beq pc 422 then some (.iaload, 1, 0, 0, 0, mj_u) else none))))) else
   (bif Nat.blt pc 435 then (bif Nat.blt pc 428 then (bif Nat.blt pc 426 then (bif Nat.blt pc 424 then (bif Nat.beq pc 423 then some (.aload_n 0, 1, 0, 0, 0, mj_u) else none) else
       (bif Nat.beq pc 424 then some (.iload 4, 2, 4, 0, 0, mj_u) else none)) else
      (bif Nat.blt pc 427 then (bif Nat.beq pc 426 then some (.iconst 4, 1, 0, 0, 0, .int 4) else none) else
       (bif Nat.beq pc 427 then some (.iadd, 1, 0, 0, 0, mj_u) else none))) else
     (bif Nat.blt pc 430 then (bif Nat.blt pc 429 then (bif Nat.beq pc 428 then some (.iaload, 1, 0, 0, 0, mj_u) else none) else
       (bif Nat.beq pc 429 then some (.aload_n 3, 1, 3, 0, 0, mj_u) else none)) else
      (bif Nat.blt pc 433 then (bif Nat.beq pc 430 then some (.invokestatic 100, 3, 1002, 0, 682, mj_u) else none) else
       (bif Nat.beq pc 433 then some (.istore 5, 2, 5, 0, 0, mj_u) else none)))) else
    (bif Nat.blt pc 440 then (bif Nat.blt pc 437 then (bif Nat.blt pc 436 then (bif Nat.beq pc 435 then some (.aload_n 2, 1, 2, 0, 0, mj_u) else none) else
       (bif Nat.beq pc 436 then some (.aload_n 0, 1, 0, 0, 0, mj_u) else none)) else
      (bif Nat.blt pc 439 then (bif Nat.beq pc 437 then some (.iload 4, 2, 4, 0, 0, mj_u) else none) else
       (bif Nat.beq pc 439 then some (.iconst 1, 1, 0, 0, 0, .int 1) else none))) else
     (bif Nat.blt pc 442 then (bif Nat.blt pc 441 then (bif Nat.beq pc 440 then some (.iadd, 1, 0, 0, 0, mj_u) else none) else
       (bif Nat.beq pc 441 then some (.iaload, 1, 0, 0, 0, mj_u) else none)) else
      (bif Nat.blt pc 443 then (bif Nat.beq pc 442 then some (.aload_n 0, 1, 0, 0, 0, mj_u) else none) else
       (bif Nat.beq pc 443 then some (.iload 4, 2, 4, 0, 0, mj_u) else none)))))) else
  (bif Nat.blt pc 466 then (bif Nat.blt pc 454 then (bif Nat.blt pc 449 then (bif Nat.blt pc 447 then (bif Nat.blt pc 446 then (bif Nat.beq pc 445 then some (.iconst 2, 1, 0, 0, 0, .int 2) else none) else
       (bif Nat.beq pc 446 then some (.iadd, 1, 0, 0, 0, mj_u) else none)) else
      (bif Nat.blt pc 448 then (bif Nat.beq pc 447 then some (.iaload, 1, 0, 0, 0, mj_u) else none) else
       (bif Nat.beq pc 448 then some (.aload_n 0, 1, 0, 0, 0, mj_u) else none))) else
     (bif Nat.blt pc 452 then (bif Nat.blt pc 451 then (bif Nat.beq pc 449 then some (.iload 4, 2, 4, 0, 0, mj_u) else none) else
       (bif Nat.beq pc 451 then some (.iconst 3, 1, 0, 0, 0, .int 3) else none)) else
      (bif Nat.blt pc 453 then (bif Nat.beq pc 452 then some (.iadd, 1, 0, 0, 0, mj_u) else none) else
       (bif Nat.beq pc 453 then some (.iaload, 1, 0, 0, 0, mj_u) else none)))) else
    (bif Nat.blt pc 459 then (bif Nat.blt pc 457 then (bif Nat.blt pc 455 then (bif Nat.beq pc 454 then some (.aload_n 0, 1, 0, 0, 0, mj_u) else none) else
       (bif Nat.beq pc 455 then some (.iload 4, 2, 4, 0, 0, mj_u) else none)) else
      (bif Nat.blt pc 458 then (bif Nat.beq pc 457 then some (.iconst 4, 1, 0, 0, 0, .int 4) else none) else
       (bif Nat.beq pc 458 then some (.iadd, 1, 0, 0, 0, mj_u) else none))) else
     (bif Nat.blt pc 463 then (bif Nat.blt pc 460 then (bif Nat.beq pc 459 then some (.iaload, 1, 0, 0, 0, mj_u) else none) else
       (bif Nat.beq pc 460 then some (.invokevirtual 103, 3, 129, 0, 990, mj_u) else none)) else
      (bif Nat.blt pc 465 then (bif Nat.beq pc 463 then some (.istore 6, 2, 6, 0, 0, mj_u) else none) else
       (bif Nat.beq pc 465 then some (.aload_n 2, 1, 2, 0, 0, mj_u) else none))))) else
   (bif Nat.blt pc 482 then (bif Nat.blt pc 475 then (bif Nat.blt pc 471 then (bif Nat.blt pc 469 then (bif Nat.beq pc 466 then some (.invokevirtual 89, 3, 113, 0, 914, mj_u) else none) else
       (bif Nat.beq pc 469 then some (.iload 5, 2, 5, 0, 0, mj_u) else none)) else
      (bif Nat.blt pc 474 then (bif Nat.beq pc 471 then some (.if_icmp .eq 5, 3, 476, 0, 0, mj_u) else none) else
       (bif Nat.beq pc 474 then some (.iconst 0, 1, 0, 0, 0, .int 0) else none))) else
     (bif Nat.blt pc 478 then (bif Nat.blt pc 476 then (bif Nat.beq pc 475 then some (.ireturn, 1, 0, 0, 0, mj_u) else none) else
       (bif Nat.beq pc 476 then some (.iload 5, 2, 5, 0, 0, mj_u) else none)) else
      (bif Nat.blt pc 481 then (bif Nat.beq pc 478 then some (.ifCond .ne 15, 3, 493, 0, 0, mj_u) else none) else
       (bif Nat.beq pc 481 then some (.aload_n 3, 1, 3, 0, 0, mj_u) else none)))) else
    (bif Nat.blt pc 487 then (bif Nat.blt pc 484 then (bif Nat.blt pc 483 then (bif Nat.beq pc 482 then some (.iconst 0, 1, 0, 0, 0, .int 0) else none) else
       (bif Nat.beq pc 483 then some (.laload, 1, 0, 0, 0, mj_u) else none)) else
      (bif Nat.blt pc 486 then (bif Nat.beq pc 484 then some (.iload 6, 2, 6, 0, 0, mj_u) else none) else
       (bif Nat.beq pc 486 then some (.i2l, 1, 0, 0, 0, mj_u) else none))) else
     (bif Nat.blt pc 491 then (bif Nat.blt pc 488 then (bif Nat.beq pc 487 then some (.lcmp, 1, 0, 0, 0, mj_u) else none) else
       (bif Nat.beq pc 488 then some (.ifCond .eq 5, 3, 493, 0, 0, mj_u) else none)) else
      (bif Nat.blt pc 492 then (bif Nat.beq pc 491 then some (.iconst 0, 1, 0, 0, 0, .int 0) else none) else
       (bif Nat.blt pc 493 then (bif Nat.beq pc 492 then some (.ireturn, 1, 0, 0, 0, mj_u) else none) else
        (bif Nat.beq pc 493 then some (.goto 1413, 3, 1906, 0, 0, mj_u) else none)))))))
def k_law_496 : Nat → Option mj_I := fun pc =>
  bif Nat.blt pc 543 then (bif Nat.blt pc 518 then (bif Nat.blt pc 507 then (bif Nat.blt pc 501 then (bif Nat.blt pc 498 then (bif Nat.blt pc 497 then (bif Nat.beq pc 496 then some (.aload_n 1, 1, 1, 0, 0, mj_u) else none) else
       (bif Nat.beq pc 497 then some (.aload_n 0, 1, 0, 0, 0, mj_u) else none)) else
      (bif Nat.blt pc 500 then (bif Nat.beq pc 498 then some (.iload 4, 2, 4, 0, 0, mj_u) else none) else
       (bif Nat.beq pc 500 then some (.iconst 1, 1, 0, 0, 0, .int 1) else none))) else
     (bif Nat.blt pc 503 then (bif Nat.blt pc 502 then (bif Nat.beq pc 501 then some (.iadd, 1, 0, 0, 0, mj_u) else none) else
       (bif Nat.beq pc 502 then some (.iaload, 1, 0, 0, 0, mj_u) else none)) else
      (bif Nat.blt pc 504 then (bif Nat.beq pc 503 then some (.aload_n 0, 1, 0, 0, 0, mj_u) else none) else
       (bif Nat.blt pc 506 then (bif Nat.beq pc 504 then some (.iload 4, 2, 4, 0, 0, mj_u) else none) else
        (bif Nat.beq pc 506 then some (.iconst 2, 1, 0, 0, 0, .int 2) else none))))) else
    (bif Nat.blt pc 512 then (bif Nat.blt pc 509 then (bif Nat.blt pc 508 then (bif Nat.beq pc 507 then some (.iadd, 1, 0, 0, 0, mj_u) else none) else
       (bif Nat.beq pc 508 then some (.iaload, 1, 0, 0, 0, mj_u) else none)) else
      (bif Nat.blt pc 510 then (bif Nat.beq pc 509 then some (.aload_n 0, 1, 0, 0, 0, mj_u) else none) else
       (bif Nat.beq pc 510 then some (.iload 4, 2, 4, 0, 0, mj_u) else none))) else
     (bif Nat.blt pc 514 then (bif Nat.blt pc 513 then (bif Nat.beq pc 512 then some (.iconst 3, 1, 0, 0, 0, .int 3) else none) else
       (bif Nat.beq pc 513 then some (.iadd, 1, 0, 0, 0, mj_u) else none)) else
      (bif Nat.blt pc 515 then (bif Nat.beq pc 514 then some (.iaload, 1, 0, 0, 0, mj_u) else none) else
       (bif Nat.blt pc 516 then (bif Nat.beq pc 515 then some (.aload_n 0, 1, 0, 0, 0, mj_u) else none) else
        (bif Nat.beq pc 516 then some (.iload 4, 2, 4, 0, 0, mj_u) else none)))))) else
   (bif Nat.blt pc 528 then (bif Nat.blt pc 522 then (bif Nat.blt pc 520 then (bif Nat.blt pc 519 then (bif Nat.beq pc 518 then some (.iconst 4, 1, 0, 0, 0, .int 4) else none) else
       (bif Nat.beq pc 519 then some (.iadd, 1, 0, 0, 0, mj_u) else none)) else
      (bif Nat.blt pc 521 then (bif Nat.beq pc 520 then some (.iaload, 1, 0, 0, 0, mj_u) else none) else
       (bif Nat.beq pc 521 then some (.aload_n 0, 1, 0, 0, 0, mj_u) else none))) else
     (bif Nat.blt pc 525 then (bif Nat.blt pc 524 then (bif Nat.beq pc 522 then some (.iload 4, 2, 4, 0, 0, mj_u) else none) else
       (bif Nat.beq pc 524 then some (.iconst 5, 1, 0, 0, 0, .int 5) else none)) else
      (bif Nat.blt pc 526 then (bif Nat.beq pc 525 then some (.iadd, 1, 0, 0, 0, mj_u) else none) else
       (bif Nat.blt pc 527 then (bif Nat.beq pc 526 then some (.iaload, 1, 0, 0, 0, mj_u) else none) else
        (bif Nat.beq pc 527 then some (.aload_n 3, 1, 3, 0, 0, mj_u) else none))))) else
    (bif Nat.blt pc 537 then (bif Nat.blt pc 533 then (bif Nat.blt pc 531 then (bif Nat.beq pc 528 then some (.invokestatic 104, 3, 1002, 0, 693, mj_u) else none) else
       (bif Nat.beq pc 531 then some (.istore 5, 2, 5, 0, 0, mj_u) else none)) else
      (bif Nat.blt pc 534 then (bif Nat.beq pc 533 then some (.aload_n 2, 1, 2, 0, 0, mj_u) else none) else
       (bif Nat.blt pc 535 then (bif Nat.beq pc 534 then some (.aload_n 0, 1, 0, 0, 0, mj_u) else none) else
        (bif Nat.beq pc 535 then some (.iload 4, 2, 4, 0, 0, mj_u) else none)))) else
     (bif Nat.blt pc 539 then (bif Nat.blt pc 538 then (bif Nat.beq pc 537 then some (.iconst 1, 1, 0, 0, 0, .int 1) else none) else
       (bif Nat.beq pc 538 then some (.iadd, 1, 0, 0, 0, mj_u) else none)) else
      (bif Nat.blt pc 540 then (bif Nat.beq pc 539 then some (.iaload, 1, 0, 0, 0, mj_u) else none) else
       (bif Nat.blt pc 541 then (bif Nat.beq pc 540 then some (.aload_n 0, 1, 0, 0, 0, mj_u) else none) else
        (bif Nat.beq pc 541 then some (.iload 4, 2, 4, 0, 0, mj_u) else none))))))) else
  (bif Nat.blt pc 567 then (bif Nat.blt pc 553 then (bif Nat.blt pc 547 then (bif Nat.blt pc 545 then (bif Nat.blt pc 544 then (bif Nat.beq pc 543 then some (.iconst 2, 1, 0, 0, 0, .int 2) else none) else
       (bif Nat.beq pc 544 then some (.iadd, 1, 0, 0, 0, mj_u) else none)) else
      (bif Nat.blt pc 546 then (bif Nat.beq pc 545 then some (.iaload, 1, 0, 0, 0, mj_u) else none) else
       (bif Nat.beq pc 546 then some (.aload_n 0, 1, 0, 0, 0, mj_u) else none))) else
     (bif Nat.blt pc 550 then (bif Nat.blt pc 549 then (bif Nat.beq pc 547 then some (.iload 4, 2, 4, 0, 0, mj_u) else none) else
       (bif Nat.beq pc 549 then some (.iconst 3, 1, 0, 0, 0, .int 3) else none)) else
      (bif Nat.blt pc 551 then (bif Nat.beq pc 550 then some (.iadd, 1, 0, 0, 0, mj_u) else none) else
       (bif Nat.blt pc 552 then (bif Nat.beq pc 551 then some (.iaload, 1, 0, 0, 0, mj_u) else none) else
        (bif Nat.beq pc 552 then some (.aload_n 0, 1, 0, 0, 0, mj_u) else none))))) else
    (bif Nat.blt pc 559 then (bif Nat.blt pc 556 then (bif Nat.blt pc 555 then (bif Nat.beq pc 553 then some (.iload 4, 2, 4, 0, 0, mj_u) else none) else
       (bif Nat.beq pc 555 then some (.iconst 4, 1, 0, 0, 0, .int 4) else none)) else
      (bif Nat.blt pc 557 then (bif Nat.beq pc 556 then some (.iadd, 1, 0, 0, 0, mj_u) else none) else
       (bif Nat.blt pc 558 then (bif Nat.beq pc 557 then some (.iaload, 1, 0, 0, 0, mj_u) else none) else
        (bif Nat.beq pc 558 then some (.aload_n 0, 1, 0, 0, 0, mj_u) else none)))) else
     (bif Nat.blt pc 562 then (bif Nat.blt pc 561 then (bif Nat.beq pc 559 then some (.iload 4, 2, 4, 0, 0, mj_u) else none) else
       (bif Nat.beq pc 561 then some (.iconst 5, 1, 0, 0, 0, .int 5) else none)) else
      (bif Nat.blt pc 563 then (bif Nat.beq pc 562 then some (.iadd, 1, 0, 0, 0, mj_u) else none) else
       (bif Nat.blt pc 564 then (bif Nat.beq pc 563 then some (.iaload, 1, 0, 0, 0, mj_u) else none) else
        (bif Nat.beq pc 564 then some (.invokevirtual 107, 3, 130, 0, 994, mj_u) else none)))))) else
   (bif Nat.blt pc 585 then (bif Nat.blt pc 575 then (bif Nat.blt pc 570 then (bif Nat.blt pc 569 then (bif Nat.beq pc 567 then some (.istore 6, 2, 6, 0, 0, mj_u) else none) else
       (bif Nat.beq pc 569 then some (.aload_n 2, 1, 2, 0, 0, mj_u) else none)) else
      (bif Nat.blt pc 573 then (bif Nat.beq pc 570 then some (.invokevirtual 89, 3, 113, 0, 914, mj_u) else none) else
       (bif Nat.beq pc 573 then some (.iload 5, 2, 5, 0, 0, mj_u) else none))) else
     (bif Nat.blt pc 579 then (bif Nat.blt pc 578 then (bif Nat.beq pc 575 then some (.if_icmp .eq 5, 3, 580, 0, 0, mj_u) else none) else
       (bif Nat.beq pc 578 then some (.iconst 0, 1, 0, 0, 0, .int 0) else none)) else
      (bif Nat.blt pc 580 then (bif Nat.beq pc 579 then some (.ireturn, 1, 0, 0, 0, mj_u) else none) else
       (bif Nat.blt pc 582 then (bif Nat.beq pc 580 then some (.iload 5, 2, 5, 0, 0, mj_u) else none) else
        (bif Nat.beq pc 582 then some (.ifCond .ne 15, 3, 597, 0, 0, mj_u) else none))))) else
    (bif Nat.blt pc 591 then (bif Nat.blt pc 587 then (bif Nat.blt pc 586 then (bif Nat.beq pc 585 then some (.aload_n 3, 1, 3, 0, 0, mj_u) else none) else
       (bif Nat.beq pc 586 then some (.iconst 0, 1, 0, 0, 0, .int 0) else none)) else
      (bif Nat.blt pc 588 then (bif Nat.beq pc 587 then some (.laload, 1, 0, 0, 0, mj_u) else none) else
       (bif Nat.blt pc 590 then (bif Nat.beq pc 588 then some (.iload 6, 2, 6, 0, 0, mj_u) else none) else
        (bif Nat.beq pc 590 then some (.i2l, 1, 0, 0, 0, mj_u) else none)))) else
     (bif Nat.blt pc 595 then (bif Nat.blt pc 592 then (bif Nat.beq pc 591 then some (.lcmp, 1, 0, 0, 0, mj_u) else none) else
       (bif Nat.beq pc 592 then some (.ifCond .eq 5, 3, 597, 0, 0, mj_u) else none)) else
      (bif Nat.blt pc 596 then (bif Nat.beq pc 595 then some (.iconst 0, 1, 0, 0, 0, .int 0) else none) else
       (bif Nat.blt pc 597 then (bif Nat.beq pc 596 then some (.ireturn, 1, 0, 0, 0, mj_u) else none) else
        (bif Nat.beq pc 597 then some (.goto 1309, 3, 1906, 0, 0, mj_u) else none)))))))
def k_law_600 : Nat → Option mj_I := fun pc =>
  bif Nat.blt pc 605 then (bif Nat.blt pc 601 then (bif Nat.beq pc 600 then some (.aload_n 1, 1, 1, 0, 0, mj_u) else none) else
   (bif Nat.blt pc 604 then (bif Nat.beq pc 601 then some (.invokevirtual 108, 3, 14, 0, 321, mj_u) else none) else
    (bif Nat.beq pc 604 then some (.aload_n 2, 1, 2, 0, 0, mj_u) else none))) else
  (bif Nat.blt pc 611 then (bif Nat.blt pc 608 then (bif Nat.beq pc 605 then some (.invokevirtual 111, 3, 133, 0, 1008, mj_u) else none) else
    (bif Nat.beq pc 608 then some (.if_icmp .eq 1298, 3, 1906, 0, 0, mj_u) else none)) else
   (bif Nat.blt pc 612 then (bif Nat.beq pc 611 then some (.iconst 0, 1, 0, 0, 0, .int 0) else none) else
    (bif Nat.beq pc 612 then some (.ireturn, 1, 0, 0, 0, mj_u) else none)))
def k_law_613 : Nat → Option mj_I := fun pc =>
  bif Nat.blt pc 638 then (bif Nat.blt pc 624 then (bif Nat.blt pc 618 then (bif Nat.blt pc 615 then (bif Nat.blt pc 614 then (bif Nat.beq pc 613 then some (.aload_n 1, 1, 1, 0, 0, mj_u) else none) else
      (bif Nat.beq pc 614 then some (.aload_n 0, 1, 0, 0, 0, mj_u) else none)) else
     (bif Nat.blt pc 617 then (bif Nat.beq pc 615 then some (.iload 4, 2, 4, 0, 0, mj_u) else none) else
      (bif Nat.beq pc 617 then some (.iconst 1, 1, 0, 0, 0, .int 1) else none))) else
    (bif Nat.blt pc 620 then (bif Nat.blt pc 619 then (bif Nat.beq pc 618 then some (.iadd, 1, 0, 0, 0, mj_u) else none) else
      (bif Nat.beq pc 619 then some (.iaload, 1, 0, 0, 0, mj_u) else none)) else
     (bif Nat.blt pc 621 then (bif Nat.beq pc 620 then some (.aload_n 3, 1, 3, 0, 0, mj_u) else none) else
      (bif Nat.beq pc 621 then some (.invokestatic 112, 3, 1002, 0, 713, mj_u) else none)))) else
   (bif Nat.blt pc 630 then (bif Nat.blt pc 627 then (bif Nat.blt pc 626 then (bif Nat.beq pc 624 then some (.istore 5, 2, 5, 0, 0, mj_u) else none) else
      (bif Nat.beq pc 626 then some (.aload_n 2, 1, 2, 0, 0, mj_u) else none)) else
     (bif Nat.blt pc 628 then (bif Nat.beq pc 627 then some (.aload_n 0, 1, 0, 0, 0, mj_u) else none) else
      (bif Nat.beq pc 628 then some (.iload 4, 2, 4, 0, 0, mj_u) else none))) else
    (bif Nat.blt pc 632 then (bif Nat.blt pc 631 then (bif Nat.beq pc 630 then some (.iconst 1, 1, 0, 0, 0, .int 1) else none) else
      (bif Nat.beq pc 631 then some (.iadd, 1, 0, 0, 0, mj_u) else none)) else
     (bif Nat.blt pc 633 then (bif Nat.beq pc 632 then some (.iaload, 1, 0, 0, 0, mj_u) else none) else
      (bif Nat.blt pc 636 then (bif Nat.beq pc 633 then some (.invokevirtual 115, 3, 135, 0, 1021, mj_u) else none) else
       (bif Nat.beq pc 636 then some (.istore 6, 2, 6, 0, 0, mj_u) else none)))))) else
  (bif Nat.blt pc 655 then (bif Nat.blt pc 647 then (bif Nat.blt pc 642 then (bif Nat.blt pc 639 then (bif Nat.beq pc 638 then some (.aload_n 2, 1, 2, 0, 0, mj_u) else none) else
      (bif Nat.beq pc 639 then some (.invokevirtual 89, 3, 113, 0, 914, mj_u) else none)) else
     (bif Nat.blt pc 644 then (bif Nat.beq pc 642 then some (.iload 5, 2, 5, 0, 0, mj_u) else none) else
      (bif Nat.beq pc 644 then some (.if_icmp .eq 5, 3, 649, 0, 0, mj_u) else none))) else
    (bif Nat.blt pc 649 then (bif Nat.blt pc 648 then (bif Nat.beq pc 647 then some (.iconst 0, 1, 0, 0, 0, .int 0) else none) else
      (bif Nat.beq pc 648 then some (.ireturn, 1, 0, 0, 0, mj_u) else none)) else
     (bif Nat.blt pc 651 then (bif Nat.beq pc 649 then some (.iload 5, 2, 5, 0, 0, mj_u) else none) else
      (bif Nat.blt pc 654 then (bif Nat.beq pc 651 then some (.ifCond .ne 15, 3, 666, 0, 0, mj_u) else none) else
       (bif Nat.beq pc 654 then some (.aload_n 3, 1, 3, 0, 0, mj_u) else none))))) else
   (bif Nat.blt pc 660 then (bif Nat.blt pc 657 then (bif Nat.blt pc 656 then (bif Nat.beq pc 655 then some (.iconst 0, 1, 0, 0, 0, .int 0) else none) else
      (bif Nat.beq pc 656 then some (.laload, 1, 0, 0, 0, mj_u) else none)) else
     (bif Nat.blt pc 659 then (bif Nat.beq pc 657 then some (.iload 6, 2, 6, 0, 0, mj_u) else none) else
      (bif Nat.beq pc 659 then some (.i2l, 1, 0, 0, 0, mj_u) else none))) else
    (bif Nat.blt pc 664 then (bif Nat.blt pc 661 then (bif Nat.beq pc 660 then some (.lcmp, 1, 0, 0, 0, mj_u) else none) else
      (bif Nat.beq pc 661 then some (.ifCond .eq 5, 3, 666, 0, 0, mj_u) else none)) else
     (bif Nat.blt pc 665 then (bif Nat.beq pc 664 then some (.iconst 0, 1, 0, 0, 0, .int 0) else none) else
      (bif Nat.blt pc 666 then (bif Nat.beq pc 665 then some (.ireturn, 1, 0, 0, 0, mj_u) else none) else
       (bif Nat.beq pc 666 then some (.goto 1240, 3, 1906, 0, 0, mj_u) else none))))))
def k_law_669 : Nat → Option mj_I := fun pc =>
  bif Nat.blt pc 674 then (bif Nat.blt pc 670 then (bif Nat.beq pc 669 then some (.aload_n 1, 1, 1, 0, 0, mj_u) else none) else
   (bif Nat.blt pc 673 then (bif Nat.beq pc 670 then some (.invokevirtual 116, 3, 18, 0, 337, mj_u) else none) else
    (bif Nat.beq pc 673 then some (.aload_n 2, 1, 2, 0, 0, mj_u) else none))) else
  (bif Nat.blt pc 680 then (bif Nat.blt pc 677 then (bif Nat.beq pc 674 then some (.invokevirtual 119, 3, 140, 0, 1042, mj_u) else none) else
    (bif Nat.beq pc 677 then some (.if_icmp .eq 1229, 3, 1906, 0, 0, mj_u) else none)) else
   (bif Nat.blt pc 681 then (bif Nat.beq pc 680 then some (.iconst 0, 1, 0, 0, 0, .int 0) else none) else
    (bif Nat.beq pc 681 then some (.ireturn, 1, 0, 0, 0, mj_u) else none)))
def k_law_682 : Nat → Option mj_I := fun pc =>
  bif Nat.blt pc 707 then (bif Nat.blt pc 693 then (bif Nat.blt pc 687 then (bif Nat.blt pc 684 then (bif Nat.blt pc 683 then (bif Nat.beq pc 682 then some (.aload_n 1, 1, 1, 0, 0, mj_u) else none) else
      (bif Nat.beq pc 683 then some (.aload_n 0, 1, 0, 0, 0, mj_u) else none)) else
     (bif Nat.blt pc 686 then (bif Nat.beq pc 684 then some (.iload 4, 2, 4, 0, 0, mj_u) else none) else
      (bif Nat.beq pc 686 then some (.iconst 1, 1, 0, 0, 0, .int 1) else none))) else
    (bif Nat.blt pc 689 then (bif Nat.blt pc 688 then (bif Nat.beq pc 687 then some (.iadd, 1, 0, 0, 0, mj_u) else none) else
      (bif Nat.beq pc 688 then some (.iaload, 1, 0, 0, 0, mj_u) else none)) else
     (bif Nat.blt pc 690 then (bif Nat.beq pc 689 then some (.aload_n 3, 1, 3, 0, 0, mj_u) else none) else
      (bif Nat.beq pc 690 then some (.invokestatic 120, 3, 1002, 0, 724, mj_u) else none)))) else
   (bif Nat.blt pc 699 then (bif Nat.blt pc 696 then (bif Nat.blt pc 695 then (bif Nat.beq pc 693 then some (.istore 5, 2, 5, 0, 0, mj_u) else none) else
      (bif Nat.beq pc 695 then some (.aload_n 2, 1, 2, 0, 0, mj_u) else none)) else
     (bif Nat.blt pc 697 then (bif Nat.beq pc 696 then some (.aload_n 0, 1, 0, 0, 0, mj_u) else none) else
      (bif Nat.beq pc 697 then some (.iload 4, 2, 4, 0, 0, mj_u) else none))) else
    (bif Nat.blt pc 701 then (bif Nat.blt pc 700 then (bif Nat.beq pc 699 then some (.iconst 1, 1, 0, 0, 0, .int 1) else none) else
      (bif Nat.beq pc 700 then some (.iadd, 1, 0, 0, 0, mj_u) else none)) else
     (bif Nat.blt pc 702 then (bif Nat.beq pc 701 then some (.iaload, 1, 0, 0, 0, mj_u) else none) else
      (bif Nat.blt pc 705 then (bif Nat.beq pc 702 then some (.invokevirtual 122, 3, 143, 0, 1056, mj_u) else none) else
       (bif Nat.beq pc 705 then some (.istore 6, 2, 6, 0, 0, mj_u) else none)))))) else
  (bif Nat.blt pc 724 then (bif Nat.blt pc 716 then (bif Nat.blt pc 711 then (bif Nat.blt pc 708 then (bif Nat.beq pc 707 then some (.aload_n 2, 1, 2, 0, 0, mj_u) else none) else
      (bif Nat.beq pc 708 then some (.invokevirtual 89, 3, 113, 0, 914, mj_u) else none)) else
     (bif Nat.blt pc 713 then (bif Nat.beq pc 711 then some (.iload 5, 2, 5, 0, 0, mj_u) else none) else
      (bif Nat.beq pc 713 then some (.if_icmp .eq 5, 3, 718, 0, 0, mj_u) else none))) else
    (bif Nat.blt pc 718 then (bif Nat.blt pc 717 then (bif Nat.beq pc 716 then some (.iconst 0, 1, 0, 0, 0, .int 0) else none) else
      (bif Nat.beq pc 717 then some (.ireturn, 1, 0, 0, 0, mj_u) else none)) else
     (bif Nat.blt pc 720 then (bif Nat.beq pc 718 then some (.iload 5, 2, 5, 0, 0, mj_u) else none) else
      (bif Nat.blt pc 723 then (bif Nat.beq pc 720 then some (.ifCond .ne 15, 3, 735, 0, 0, mj_u) else none) else
       (bif Nat.beq pc 723 then some (.aload_n 3, 1, 3, 0, 0, mj_u) else none))))) else
   (bif Nat.blt pc 729 then (bif Nat.blt pc 726 then (bif Nat.blt pc 725 then (bif Nat.beq pc 724 then some (.iconst 0, 1, 0, 0, 0, .int 0) else none) else
      (bif Nat.beq pc 725 then some (.laload, 1, 0, 0, 0, mj_u) else none)) else
     (bif Nat.blt pc 728 then (bif Nat.beq pc 726 then some (.iload 6, 2, 6, 0, 0, mj_u) else none) else
      (bif Nat.beq pc 728 then some (.i2l, 1, 0, 0, 0, mj_u) else none))) else
    (bif Nat.blt pc 733 then (bif Nat.blt pc 730 then (bif Nat.beq pc 729 then some (.lcmp, 1, 0, 0, 0, mj_u) else none) else
      (bif Nat.beq pc 730 then some (.ifCond .eq 5, 3, 735, 0, 0, mj_u) else none)) else
     (bif Nat.blt pc 734 then (bif Nat.beq pc 733 then some (.iconst 0, 1, 0, 0, 0, .int 0) else none) else
      (bif Nat.blt pc 735 then (bif Nat.beq pc 734 then some (.ireturn, 1, 0, 0, 0, mj_u) else none) else
       (bif Nat.beq pc 735 then some (.goto 1171, 3, 1906, 0, 0, mj_u) else none))))))
def k_law_738 : Nat → Option mj_I := fun pc =>
  bif Nat.blt pc 763 then (bif Nat.blt pc 749 then (bif Nat.blt pc 743 then (bif Nat.blt pc 740 then (bif Nat.blt pc 739 then (bif Nat.beq pc 738 then some (.aload_n 1, 1, 1, 0, 0, mj_u) else none) else
      (bif Nat.beq pc 739 then some (.aload_n 0, 1, 0, 0, 0, mj_u) else none)) else
     (bif Nat.blt pc 742 then (bif Nat.beq pc 740 then some (.iload 4, 2, 4, 0, 0, mj_u) else none) else
      (bif Nat.beq pc 742 then some (.iconst 1, 1, 0, 0, 0, .int 1) else none))) else
    (bif Nat.blt pc 745 then (bif Nat.blt pc 744 then (bif Nat.beq pc 743 then some (.iadd, 1, 0, 0, 0, mj_u) else none) else
      (bif Nat.beq pc 744 then some (.iaload, 1, 0, 0, 0, mj_u) else none)) else
     (bif Nat.blt pc 746 then (bif Nat.beq pc 745 then some (.aload_n 3, 1, 3, 0, 0, mj_u) else none) else
      (bif Nat.beq pc 746 then some (.invokestatic 123, 3, 1002, 0, 731, mj_u) else none)))) else
   (bif Nat.blt pc 755 then (bif Nat.blt pc 752 then (bif Nat.blt pc 751 then (bif Nat.beq pc 749 then some (.istore 5, 2, 5, 0, 0, mj_u) else none) else
      (bif Nat.beq pc 751 then some (.aload_n 2, 1, 2, 0, 0, mj_u) else none)) else
     (bif Nat.blt pc 753 then (bif Nat.beq pc 752 then some (.aload_n 0, 1, 0, 0, 0, mj_u) else none) else
      (bif Nat.beq pc 753 then some (.iload 4, 2, 4, 0, 0, mj_u) else none))) else
    (bif Nat.blt pc 757 then (bif Nat.blt pc 756 then (bif Nat.beq pc 755 then some (.iconst 1, 1, 0, 0, 0, .int 1) else none) else
      (bif Nat.beq pc 756 then some (.iadd, 1, 0, 0, 0, mj_u) else none)) else
     (bif Nat.blt pc 758 then (bif Nat.beq pc 757 then some (.iaload, 1, 0, 0, 0, mj_u) else none) else
      (bif Nat.blt pc 761 then (bif Nat.beq pc 758 then some (.invokevirtual 125, 3, 144, 0, 1060, mj_u) else none) else
       (bif Nat.beq pc 761 then some (.istore 6, 2, 6, 0, 0, mj_u) else none)))))) else
  (bif Nat.blt pc 780 then (bif Nat.blt pc 772 then (bif Nat.blt pc 767 then (bif Nat.blt pc 764 then (bif Nat.beq pc 763 then some (.aload_n 2, 1, 2, 0, 0, mj_u) else none) else
      (bif Nat.beq pc 764 then some (.invokevirtual 89, 3, 113, 0, 914, mj_u) else none)) else
     (bif Nat.blt pc 769 then (bif Nat.beq pc 767 then some (.iload 5, 2, 5, 0, 0, mj_u) else none) else
      (bif Nat.beq pc 769 then some (.if_icmp .eq 5, 3, 774, 0, 0, mj_u) else none))) else
    (bif Nat.blt pc 774 then (bif Nat.blt pc 773 then (bif Nat.beq pc 772 then some (.iconst 0, 1, 0, 0, 0, .int 0) else none) else
      (bif Nat.beq pc 773 then some (.ireturn, 1, 0, 0, 0, mj_u) else none)) else
     (bif Nat.blt pc 776 then (bif Nat.beq pc 774 then some (.iload 5, 2, 5, 0, 0, mj_u) else none) else
      (bif Nat.blt pc 779 then (bif Nat.beq pc 776 then some (.ifCond .ne 15, 3, 791, 0, 0, mj_u) else none) else
       (bif Nat.beq pc 779 then some (.aload_n 3, 1, 3, 0, 0, mj_u) else none))))) else
   (bif Nat.blt pc 785 then (bif Nat.blt pc 782 then (bif Nat.blt pc 781 then (bif Nat.beq pc 780 then some (.iconst 0, 1, 0, 0, 0, .int 0) else none) else
      (bif Nat.beq pc 781 then some (.laload, 1, 0, 0, 0, mj_u) else none)) else
     (bif Nat.blt pc 784 then (bif Nat.beq pc 782 then some (.iload 6, 2, 6, 0, 0, mj_u) else none) else
      (bif Nat.beq pc 784 then some (.i2l, 1, 0, 0, 0, mj_u) else none))) else
    (bif Nat.blt pc 789 then (bif Nat.blt pc 786 then (bif Nat.beq pc 785 then some (.lcmp, 1, 0, 0, 0, mj_u) else none) else
      (bif Nat.beq pc 786 then some (.ifCond .eq 5, 3, 791, 0, 0, mj_u) else none)) else
     (bif Nat.blt pc 790 then (bif Nat.beq pc 789 then some (.iconst 0, 1, 0, 0, 0, .int 0) else none) else
      (bif Nat.blt pc 791 then (bif Nat.beq pc 790 then some (.ireturn, 1, 0, 0, 0, mj_u) else none) else
       (bif Nat.beq pc 791 then some (.goto 1115, 3, 1906, 0, 0, mj_u) else none))))))
def k_law_794 : Nat → Option mj_I := fun pc =>
  bif Nat.blt pc 823 then (bif Nat.blt pc 807 then (bif Nat.blt pc 800 then (bif Nat.blt pc 796 then (bif Nat.blt pc 795 then (bif Nat.beq pc 794 then some (.aload_n 1, 1, 1, 0, 0, mj_u) else none) else
      (bif Nat.beq pc 795 then some (.aload_n 0, 1, 0, 0, 0, mj_u) else none)) else
     (bif Nat.blt pc 798 then (bif Nat.beq pc 796 then some (.iload 4, 2, 4, 0, 0, mj_u) else none) else
      (bif Nat.blt pc 799 then (bif Nat.beq pc 798 then some (.iconst 1, 1, 0, 0, 0, .int 1) else none) else
       (bif Nat.beq pc 799 then some (.iadd, 1, 0, 0, 0, mj_u) else none)))) else
    (bif Nat.blt pc 804 then (bif Nat.blt pc 801 then (bif Nat.beq pc 800 then some (.iaload, 1, 0, 0, 0, mj_u) else none) else
      (bif Nat.blt pc 802 then (bif Nat.beq pc 801 then some (.aload_n 0, 1, 0, 0, 0, mj_u) else none) else
       (bif Nat.beq pc 802 then some (.iload 4, 2, 4, 0, 0, mj_u) else none))) else
     (bif Nat.blt pc 805 then (bif Nat.beq pc 804 then some (.iconst 2, 1, 0, 0, 0, .int 2) else none) else
      (bif Nat.blt pc 806 then (bif Nat.beq pc 805 then some (.iadd, 1, 0, 0, 0, mj_u) else none) else
       (bif Nat.beq pc 806 then some (.iaload, 1, 0, 0, 0, mj_u) else none))))) else
   (bif Nat.blt pc 815 then (bif Nat.blt pc 811 then (bif Nat.blt pc 808 then (bif Nat.beq pc 807 then some (.aload_n 3, 1, 3, 0, 0, mj_u) else none) else
      (bif Nat.beq pc 808 then some (.invokestatic 126, 3, 1002, 0, 738, mj_u) else none)) else
     (bif Nat.blt pc 813 then (bif Nat.beq pc 811 then some (.istore 5, 2, 5, 0, 0, mj_u) else none) else
      (bif Nat.blt pc 814 then (bif Nat.beq pc 813 then some (.aload_n 2, 1, 2, 0, 0, mj_u) else none) else
       (bif Nat.beq pc 814 then some (.aload_n 0, 1, 0, 0, 0, mj_u) else none)))) else
    (bif Nat.blt pc 819 then (bif Nat.blt pc 817 then (bif Nat.beq pc 815 then some (.iload 4, 2, 4, 0, 0, mj_u) else none) else
      (bif Nat.blt pc 818 then (bif Nat.beq pc 817 then some (.iconst 1, 1, 0, 0, 0, .int 1) else none) else
       (bif Nat.beq pc 818 then some (.iadd, 1, 0, 0, 0, mj_u) else none))) else
     (bif Nat.blt pc 820 then (bif Nat.beq pc 819 then some (.iaload, 1, 0, 0, 0, mj_u) else none) else
      (bif Nat.blt pc 821 then (bif Nat.beq pc 820 then some (.aload_n 0, 1, 0, 0, 0, mj_u) else none) else
       (bif Nat.beq pc 821 then some (.iload 4, 2, 4, 0, 0, mj_u) else none)))))) else
  (bif Nat.blt pc 842 then (bif Nat.blt pc 831 then (bif Nat.blt pc 825 then (bif Nat.blt pc 824 then (bif Nat.beq pc 823 then some (.iconst 2, 1, 0, 0, 0, .int 2) else none) else
      (bif Nat.beq pc 824 then some (.iadd, 1, 0, 0, 0, mj_u) else none)) else
     (bif Nat.blt pc 826 then (bif Nat.beq pc 825 then some (.iaload, 1, 0, 0, 0, mj_u) else none) else
      (bif Nat.blt pc 829 then (bif Nat.beq pc 826 then some (.invokevirtual 128, 3, 148, 0, 1076, mj_u) else none) else
       (bif Nat.beq pc 829 then some (.istore 6, 2, 6, 0, 0, mj_u) else none)))) else
    (bif Nat.blt pc 837 then (bif Nat.blt pc 832 then (bif Nat.beq pc 831 then some (.aload_n 2, 1, 2, 0, 0, mj_u) else none) else
      (bif Nat.blt pc 835 then (bif Nat.beq pc 832 then some (.invokevirtual 89, 3, 113, 0, 914, mj_u) else none) else
       (bif Nat.beq pc 835 then some (.iload 5, 2, 5, 0, 0, mj_u) else none))) else
     (bif Nat.blt pc 840 then (bif Nat.beq pc 837 then some (.if_icmp .eq 5, 3, 842, 0, 0, mj_u) else none) else
      (bif Nat.blt pc 841 then (bif Nat.beq pc 840 then some (.iconst 0, 1, 0, 0, 0, .int 0) else none) else
       (bif Nat.beq pc 841 then some (.ireturn, 1, 0, 0, 0, mj_u) else none))))) else
   (bif Nat.blt pc 852 then (bif Nat.blt pc 848 then (bif Nat.blt pc 844 then (bif Nat.beq pc 842 then some (.iload 5, 2, 5, 0, 0, mj_u) else none) else
      (bif Nat.blt pc 847 then (bif Nat.beq pc 844 then some (.ifCond .ne 15, 3, 859, 0, 0, mj_u) else none) else
       (bif Nat.beq pc 847 then some (.aload_n 3, 1, 3, 0, 0, mj_u) else none))) else
     (bif Nat.blt pc 849 then (bif Nat.beq pc 848 then some (.iconst 0, 1, 0, 0, 0, .int 0) else none) else
      (bif Nat.blt pc 850 then (bif Nat.beq pc 849 then some (.laload, 1, 0, 0, 0, mj_u) else none) else
       (bif Nat.beq pc 850 then some (.iload 6, 2, 6, 0, 0, mj_u) else none)))) else
    (bif Nat.blt pc 857 then (bif Nat.blt pc 853 then (bif Nat.beq pc 852 then some (.i2l, 1, 0, 0, 0, mj_u) else none) else
      (bif Nat.blt pc 854 then (bif Nat.beq pc 853 then some (.lcmp, 1, 0, 0, 0, mj_u) else none) else
       (bif Nat.beq pc 854 then some (.ifCond .eq 5, 3, 859, 0, 0, mj_u) else none))) else
     (bif Nat.blt pc 858 then (bif Nat.beq pc 857 then some (.iconst 0, 1, 0, 0, 0, .int 0) else none) else
      (bif Nat.blt pc 859 then (bif Nat.beq pc 858 then some (.ireturn, 1, 0, 0, 0, mj_u) else none) else
       (bif Nat.beq pc 859 then some (.goto 1047, 3, 1906, 0, 0, mj_u) else none))))))
def k_law_862 : Nat → Option mj_I := fun pc =>
  bif Nat.blt pc 897 then (bif Nat.blt pc 878 then (bif Nat.blt pc 869 then (bif Nat.blt pc 866 then (bif Nat.blt pc 863 then (bif Nat.beq pc 862 then some (.aload_n 1, 1, 1, 0, 0, mj_u) else none) else
      (bif Nat.blt pc 864 then (bif Nat.beq pc 863 then some (.aload_n 0, 1, 0, 0, 0, mj_u) else none) else
       (bif Nat.beq pc 864 then some (.iload 4, 2, 4, 0, 0, mj_u) else none))) else
     (bif Nat.blt pc 867 then (bif Nat.beq pc 866 then some (.iconst 1, 1, 0, 0, 0, .int 1) else none) else
      (bif Nat.blt pc 868 then (bif Nat.beq pc 867 then some (.iadd, 1, 0, 0, 0, mj_u) else none) else
       (bif Nat.beq pc 868 then some (.iaload, 1, 0, 0, 0, mj_u) else none)))) else
    (bif Nat.blt pc 873 then (bif Nat.blt pc 870 then (bif Nat.beq pc 869 then some (.aload_n 0, 1, 0, 0, 0, mj_u) else none) else
      (bif Nat.blt pc 872 then (bif Nat.beq pc 870 then some (.iload 4, 2, 4, 0, 0, mj_u) else none) else
       (bif Nat.beq pc 872 then some (.iconst 2, 1, 0, 0, 0, .int 2) else none))) else
     (bif Nat.blt pc 875 then (bif Nat.blt pc 874 then (bif Nat.beq pc 873 then some (.iadd, 1, 0, 0, 0, mj_u) else none) else
       (bif Nat.beq pc 874 then some (.iaload, 1, 0, 0, 0, mj_u) else none)) else
      (bif Nat.blt pc 876 then (bif Nat.beq pc 875 then some (.aload_n 0, 1, 0, 0, 0, mj_u) else none) else
       (bif Nat.beq pc 876 then some (.iload 4, 2, 4, 0, 0, mj_u) else none))))) else
   (bif Nat.blt pc 888 then (bif Nat.blt pc 881 then (bif Nat.blt pc 879 then (bif Nat.beq pc 878 then some (.iconst 3, 1, 0, 0, 0, .int 3) else none) else
      (bif Nat.blt pc 880 then (bif Nat.beq pc 879 then some (.iadd, 1, 0, 0, 0, mj_u) else none) else
       (bif Nat.beq pc 880 then some (.iaload, 1, 0, 0, 0, mj_u) else none))) else
     (bif Nat.blt pc 885 then (bif Nat.blt pc 882 then (bif Nat.beq pc 881 then some (.aload_n 3, 1, 3, 0, 0, mj_u) else none) else
       (bif Nat.beq pc 882 then some (.invokestatic 129, 3, 1002, 0, 745, mj_u) else none)) else
      (bif Nat.blt pc 887 then (bif Nat.beq pc 885 then some (.istore 5, 2, 5, 0, 0, mj_u) else none) else
       (bif Nat.beq pc 887 then some (.aload_n 2, 1, 2, 0, 0, mj_u) else none)))) else
    (bif Nat.blt pc 892 then (bif Nat.blt pc 889 then (bif Nat.beq pc 888 then some (.aload_n 0, 1, 0, 0, 0, mj_u) else none) else
      (bif Nat.blt pc 891 then (bif Nat.beq pc 889 then some (.iload 4, 2, 4, 0, 0, mj_u) else none) else
       (bif Nat.beq pc 891 then some (.iconst 1, 1, 0, 0, 0, .int 1) else none))) else
     (bif Nat.blt pc 894 then (bif Nat.blt pc 893 then (bif Nat.beq pc 892 then some (.iadd, 1, 0, 0, 0, mj_u) else none) else
       (bif Nat.beq pc 893 then some (.iaload, 1, 0, 0, 0, mj_u) else none)) else
      (bif Nat.blt pc 895 then (bif Nat.beq pc 894 then some (.aload_n 0, 1, 0, 0, 0, mj_u) else none) else
       (bif Nat.beq pc 895 then some (.iload 4, 2, 4, 0, 0, mj_u) else none)))))) else
  (bif Nat.blt pc 920 then (bif Nat.blt pc 905 then (bif Nat.blt pc 900 then (bif Nat.blt pc 898 then (bif Nat.beq pc 897 then some (.iconst 2, 1, 0, 0, 0, .int 2) else none) else
      (bif Nat.blt pc 899 then (bif Nat.beq pc 898 then some (.iadd, 1, 0, 0, 0, mj_u) else none) else
       (bif Nat.beq pc 899 then some (.iaload, 1, 0, 0, 0, mj_u) else none))) else
     (bif Nat.blt pc 903 then (bif Nat.blt pc 901 then (bif Nat.beq pc 900 then some (.aload_n 0, 1, 0, 0, 0, mj_u) else none) else
       (bif Nat.beq pc 901 then some (.iload 4, 2, 4, 0, 0, mj_u) else none)) else
      (bif Nat.blt pc 904 then (bif Nat.beq pc 903 then some (.iconst 3, 1, 0, 0, 0, .int 3) else none) else
       (bif Nat.beq pc 904 then some (.iadd, 1, 0, 0, 0, mj_u) else none)))) else
    (bif Nat.blt pc 911 then (bif Nat.blt pc 906 then (bif Nat.beq pc 905 then some (.iaload, 1, 0, 0, 0, mj_u) else none) else
      (bif Nat.blt pc 909 then (bif Nat.beq pc 906 then some (.invokevirtual 131, 3, 149, 0, 1080, mj_u) else none) else
       (bif Nat.beq pc 909 then some (.istore 6, 2, 6, 0, 0, mj_u) else none))) else
     (bif Nat.blt pc 915 then (bif Nat.blt pc 912 then (bif Nat.beq pc 911 then some (.aload_n 2, 1, 2, 0, 0, mj_u) else none) else
       (bif Nat.beq pc 912 then some (.invokevirtual 89, 3, 113, 0, 914, mj_u) else none)) else
      (bif Nat.blt pc 917 then (bif Nat.beq pc 915 then some (.iload 5, 2, 5, 0, 0, mj_u) else none) else
       (bif Nat.beq pc 917 then some (.if_icmp .eq 5, 3, 922, 0, 0, mj_u) else none))))) else
   (bif Nat.blt pc 930 then (bif Nat.blt pc 924 then (bif Nat.blt pc 921 then (bif Nat.beq pc 920 then some (.iconst 0, 1, 0, 0, 0, .int 0) else none) else
      (bif Nat.blt pc 922 then (bif Nat.beq pc 921 then some (.ireturn, 1, 0, 0, 0, mj_u) else none) else
       (bif Nat.beq pc 922 then some (.iload 5, 2, 5, 0, 0, mj_u) else none))) else
     (bif Nat.blt pc 928 then (bif Nat.blt pc 927 then (bif Nat.beq pc 924 then some (.ifCond .ne 15, 3, 939, 0, 0, mj_u) else none) else
       (bif Nat.beq pc 927 then some (.aload_n 3, 1, 3, 0, 0, mj_u) else none)) else
      (bif Nat.blt pc 929 then (bif Nat.beq pc 928 then some (.iconst 0, 1, 0, 0, 0, .int 0) else none) else
       (bif Nat.beq pc 929 then some (.laload, 1, 0, 0, 0, mj_u) else none)))) else
    (bif Nat.blt pc 934 then (bif Nat.blt pc 932 then (bif Nat.beq pc 930 then some (.iload 6, 2, 6, 0, 0, mj_u) else none) else
      (bif Nat.blt pc 933 then (bif Nat.beq pc 932 then some (.i2l, 1, 0, 0, 0, mj_u) else none) else
       (bif Nat.beq pc 933 then some (.lcmp, 1, 0, 0, 0, mj_u) else none))) else
     (bif Nat.blt pc 938 then (bif Nat.blt pc 937 then (bif Nat.beq pc 934 then some (.ifCond .eq 5, 3, 939, 0, 0, mj_u) else none) else
       (bif Nat.beq pc 937 then some (.iconst 0, 1, 0, 0, 0, .int 0) else none)) else
      (bif Nat.blt pc 939 then (bif Nat.beq pc 938 then some (.ireturn, 1, 0, 0, 0, mj_u) else none) else
       (bif Nat.beq pc 939 then some (.goto 967, 3, 1906, 0, 0, mj_u) else none))))))
def k_law_942 : Nat → Option mj_I := fun pc =>
  bif Nat.blt pc 947 then (bif Nat.blt pc 943 then (bif Nat.beq pc 942 then some (.aload_n 1, 1, 1, 0, 0, mj_u) else none) else
   (bif Nat.blt pc 946 then (bif Nat.beq pc 943 then some (.invokevirtual 132, 3, 34, 0, 401, mj_u) else none) else
    (bif Nat.beq pc 946 then some (.aload_n 2, 1, 2, 0, 0, mj_u) else none))) else
  (bif Nat.blt pc 953 then (bif Nat.blt pc 950 then (bif Nat.beq pc 947 then some (.invokevirtual 135, 3, 154, 0, 1100, mj_u) else none) else
    (bif Nat.beq pc 950 then some (.if_icmp .eq 956, 3, 1906, 0, 0, mj_u) else none)) else
   (bif Nat.blt pc 954 then (bif Nat.beq pc 953 then some (.iconst 0, 1, 0, 0, 0, .int 0) else none) else
    (bif Nat.beq pc 954 then some (.ireturn, 1, 0, 0, 0, mj_u) else none)))
def k_law_955 : Nat → Option mj_I := fun pc =>
  bif Nat.blt pc 960 then (bif Nat.blt pc 956 then (bif Nat.beq pc 955 then some (.aload_n 1, 1, 1, 0, 0, mj_u) else none) else
   (bif Nat.blt pc 959 then (bif Nat.beq pc 956 then some (.invokevirtual 136, 3, 43, 0, 440, mj_u) else none) else
    (bif Nat.beq pc 959 then some (.aload_n 2, 1, 2, 0, 0, mj_u) else none))) else
  (bif Nat.blt pc 966 then (bif Nat.blt pc 963 then (bif Nat.beq pc 960 then some (.invokevirtual 139, 3, 157, 0, 1112, mj_u) else none) else
    (bif Nat.beq pc 963 then some (.if_icmp .eq 943, 3, 1906, 0, 0, mj_u) else none)) else
   (bif Nat.blt pc 967 then (bif Nat.beq pc 966 then some (.iconst 0, 1, 0, 0, 0, .int 0) else none) else
    (bif Nat.beq pc 967 then some (.ireturn, 1, 0, 0, 0, mj_u) else none)))
def k_law_968 : Nat → Option mj_I := fun pc =>
  bif Nat.blt pc 973 then (bif Nat.blt pc 969 then (bif Nat.beq pc 968 then some (.aload_n 1, 1, 1, 0, 0, mj_u) else none) else
   (bif Nat.blt pc 972 then (bif Nat.beq pc 969 then some (.invokevirtual 140, 3, 44, 0, 444, mj_u) else none) else
    (bif Nat.beq pc 972 then some (.aload_n 2, 1, 2, 0, 0, mj_u) else none))) else
  (bif Nat.blt pc 979 then (bif Nat.blt pc 976 then (bif Nat.beq pc 973 then some (.invokevirtual 143, 3, 158, 0, 1116, mj_u) else none) else
    (bif Nat.beq pc 976 then some (.if_icmp .eq 930, 3, 1906, 0, 0, mj_u) else none)) else
   (bif Nat.blt pc 980 then (bif Nat.beq pc 979 then some (.iconst 0, 1, 0, 0, 0, .int 0) else none) else
    (bif Nat.beq pc 980 then some (.ireturn, 1, 0, 0, 0, mj_u) else none)))
def k_law_981 : Nat → Option mj_I := fun pc =>
  bif Nat.blt pc 986 then (bif Nat.blt pc 982 then (bif Nat.beq pc 981 then some (.aload_n 1, 1, 1, 0, 0, mj_u) else none) else
   (bif Nat.blt pc 985 then (bif Nat.beq pc 982 then some (.invokevirtual 144, 3, 46, 0, 452, mj_u) else none) else
    (bif Nat.beq pc 985 then some (.aload_n 2, 1, 2, 0, 0, mj_u) else none))) else
  (bif Nat.blt pc 992 then (bif Nat.blt pc 989 then (bif Nat.beq pc 986 then some (.invokevirtual 147, 3, 160, 0, 1124, mj_u) else none) else
    (bif Nat.beq pc 989 then some (.if_icmp .eq 917, 3, 1906, 0, 0, mj_u) else none)) else
   (bif Nat.blt pc 993 then (bif Nat.beq pc 992 then some (.iconst 0, 1, 0, 0, 0, .int 0) else none) else
    (bif Nat.beq pc 993 then some (.ireturn, 1, 0, 0, 0, mj_u) else none)))
def k_law_994 : Nat → Option mj_I := fun pc =>
  bif Nat.blt pc 1023 then (bif Nat.blt pc 1007 then (bif Nat.blt pc 1000 then (bif Nat.blt pc 996 then (bif Nat.blt pc 995 then (bif Nat.beq pc 994 then some (.aload_n 1, 1, 1, 0, 0, mj_u) else none) else
      (bif Nat.beq pc 995 then some (.aload_n 0, 1, 0, 0, 0, mj_u) else none)) else
     (bif Nat.blt pc 998 then (bif Nat.beq pc 996 then some (.iload 4, 2, 4, 0, 0, mj_u) else none) else
      (bif Nat.blt pc 999 then (bif Nat.beq pc 998 then some (.iconst 1, 1, 0, 0, 0, .int 1) else none) else
       (bif Nat.beq pc 999 then some (.iadd, 1, 0, 0, 0, mj_u) else none)))) else
    (bif Nat.blt pc 1004 then (bif Nat.blt pc 1001 then (bif Nat.beq pc 1000 then some (.iaload, 1, 0, 0, 0, mj_u) else none) else
      (bif Nat.blt pc 1002 then (bif Nat.beq pc 1001 then some (.aload_n 0, 1, 0, 0, 0, mj_u) else none) else
       (bif Nat.beq pc 1002 then some (.iload 4, 2, 4, 0, 0, mj_u) else none))) else
     (bif Nat.blt pc 1005 then (bif Nat.beq pc 1004 then some (.iconst 2, 1, 0, 0, 0, .int 2) else none) else
      (bif Nat.blt pc 1006 then (bif Nat.beq pc 1005 then some (.iadd, 1, 0, 0, 0, mj_u) else none) else
       (bif Nat.beq pc 1006 then some (.iaload, 1, 0, 0, 0, mj_u) else none))))) else
   (bif Nat.blt pc 1015 then (bif Nat.blt pc 1011 then (bif Nat.blt pc 1008 then (bif Nat.beq pc 1007 then some (.aload_n 3, 1, 3, 0, 0, mj_u) else none) else
      (bif Nat.beq pc 1008 then some (.invokestatic 148, 3, 1002, 0, 752, mj_u) else none)) else
     (bif Nat.blt pc 1013 then (bif Nat.beq pc 1011 then some (.istore 5, 2, 5, 0, 0, mj_u) else none) else
      (bif Nat.blt pc 1014 then (bif Nat.beq pc 1013 then some (.aload_n 2, 1, 2, 0, 0, mj_u) else none) else
       (bif Nat.beq pc 1014 then some (.aload_n 0, 1, 0, 0, 0, mj_u) else none)))) else
    (bif Nat.blt pc 1019 then (bif Nat.blt pc 1017 then (bif Nat.beq pc 1015 then some (.iload 4, 2, 4, 0, 0, mj_u) else none) else
      (bif Nat.blt pc 1018 then (bif Nat.beq pc 1017 then some (.iconst 1, 1, 0, 0, 0, .int 1) else none) else
       (bif Nat.beq pc 1018 then some (.iadd, 1, 0, 0, 0, mj_u) else none))) else
     (bif Nat.blt pc 1020 then (bif Nat.beq pc 1019 then some (.iaload, 1, 0, 0, 0, mj_u) else none) else
      (bif Nat.blt pc 1021 then (bif Nat.beq pc 1020 then some (.aload_n 0, 1, 0, 0, 0, mj_u) else none) else
       (bif Nat.beq pc 1021 then some (.iload 4, 2, 4, 0, 0, mj_u) else none)))))) else
  (bif Nat.blt pc 1042 then (bif Nat.blt pc 1031 then (bif Nat.blt pc 1025 then (bif Nat.blt pc 1024 then (bif Nat.beq pc 1023 then some (.iconst 2, 1, 0, 0, 0, .int 2) else none) else
      (bif Nat.beq pc 1024 then some (.iadd, 1, 0, 0, 0, mj_u) else none)) else
     (bif Nat.blt pc 1026 then (bif Nat.beq pc 1025 then some (.iaload, 1, 0, 0, 0, mj_u) else none) else
      (bif Nat.blt pc 1029 then (bif Nat.beq pc 1026 then some (.invokevirtual 150, 3, 162, 0, 1132, mj_u) else none) else
       (bif Nat.beq pc 1029 then some (.istore 6, 2, 6, 0, 0, mj_u) else none)))) else
    (bif Nat.blt pc 1037 then (bif Nat.blt pc 1032 then (bif Nat.beq pc 1031 then some (.aload_n 2, 1, 2, 0, 0, mj_u) else none) else
      (bif Nat.blt pc 1035 then (bif Nat.beq pc 1032 then some (.invokevirtual 89, 3, 113, 0, 914, mj_u) else none) else
       (bif Nat.beq pc 1035 then some (.iload 5, 2, 5, 0, 0, mj_u) else none))) else
     (bif Nat.blt pc 1040 then (bif Nat.beq pc 1037 then some (.if_icmp .eq 5, 3, 1042, 0, 0, mj_u) else none) else
      (bif Nat.blt pc 1041 then (bif Nat.beq pc 1040 then some (.iconst 0, 1, 0, 0, 0, .int 0) else none) else
       (bif Nat.beq pc 1041 then some (.ireturn, 1, 0, 0, 0, mj_u) else none))))) else
   (bif Nat.blt pc 1052 then (bif Nat.blt pc 1048 then (bif Nat.blt pc 1044 then (bif Nat.beq pc 1042 then some (.iload 5, 2, 5, 0, 0, mj_u) else none) else
      (bif Nat.blt pc 1047 then (bif Nat.beq pc 1044 then some (.ifCond .ne 15, 3, 1059, 0, 0, mj_u) else none) else
       (bif Nat.beq pc 1047 then some (.aload_n 3, 1, 3, 0, 0, mj_u) else none))) else
     (bif Nat.blt pc 1049 then (bif Nat.beq pc 1048 then some (.iconst 0, 1, 0, 0, 0, .int 0) else none) else
      (bif Nat.blt pc 1050 then (bif Nat.beq pc 1049 then some (.laload, 1, 0, 0, 0, mj_u) else none) else
       (bif Nat.beq pc 1050 then some (.iload 6, 2, 6, 0, 0, mj_u) else none)))) else
    (bif Nat.blt pc 1057 then (bif Nat.blt pc 1053 then (bif Nat.beq pc 1052 then some (.i2l, 1, 0, 0, 0, mj_u) else none) else
      (bif Nat.blt pc 1054 then (bif Nat.beq pc 1053 then some (.lcmp, 1, 0, 0, 0, mj_u) else none) else
       (bif Nat.beq pc 1054 then some (.ifCond .eq 5, 3, 1059, 0, 0, mj_u) else none))) else
     (bif Nat.blt pc 1058 then (bif Nat.beq pc 1057 then some (.iconst 0, 1, 0, 0, 0, .int 0) else none) else
      (bif Nat.blt pc 1059 then (bif Nat.beq pc 1058 then some (.ireturn, 1, 0, 0, 0, mj_u) else none) else
       (bif Nat.beq pc 1059 then some (.goto 847, 3, 1906, 0, 0, mj_u) else none))))))
def k_law_1062 : Nat → Option mj_I := fun pc =>
  bif Nat.blt pc 1067 then (bif Nat.blt pc 1063 then (bif Nat.beq pc 1062 then some (.aload_n 1, 1, 1, 0, 0, mj_u) else none) else
   (bif Nat.blt pc 1066 then (bif Nat.beq pc 1063 then some (.invokevirtual 151, 3, 47, 0, 456, mj_u) else none) else
    (bif Nat.beq pc 1066 then some (.aload_n 2, 1, 2, 0, 0, mj_u) else none))) else
  (bif Nat.blt pc 1073 then (bif Nat.blt pc 1070 then (bif Nat.beq pc 1067 then some (.invokevirtual 154, 3, 163, 0, 1136, mj_u) else none) else
    (bif Nat.beq pc 1070 then some (.if_icmp .eq 836, 3, 1906, 0, 0, mj_u) else none)) else
   (bif Nat.blt pc 1074 then (bif Nat.beq pc 1073 then some (.iconst 0, 1, 0, 0, 0, .int 0) else none) else
    (bif Nat.beq pc 1074 then some (.ireturn, 1, 0, 0, 0, mj_u) else none)))
def k_law_1075 : Nat → Option mj_I := fun pc =>
  bif Nat.blt pc 1110 then (bif Nat.blt pc 1091 then (bif Nat.blt pc 1082 then (bif Nat.blt pc 1079 then (bif Nat.blt pc 1076 then (bif Nat.beq pc 1075 then some (.aload_n 1, 1, 1, 0, 0, mj_u) else none) else
      (bif Nat.blt pc 1077 then (bif Nat.beq pc 1076 then some (.aload_n 0, 1, 0, 0, 0, mj_u) else none) else
       (bif Nat.beq pc 1077 then some (.iload 4, 2, 4, 0, 0, mj_u) else none))) else
     (bif Nat.blt pc 1080 then (bif Nat.beq pc 1079 then some (.iconst 1, 1, 0, 0, 0, .int 1) else none) else
      (bif Nat.blt pc 1081 then (bif Nat.beq pc 1080 then some (.iadd, 1, 0, 0, 0, mj_u) else none) else
       (bif Nat.beq pc 1081 then some (.iaload, 1, 0, 0, 0, mj_u) else none)))) else
    (bif Nat.blt pc 1086 then (bif Nat.blt pc 1083 then (bif Nat.beq pc 1082 then some (.aload_n 0, 1, 0, 0, 0, mj_u) else none) else
      (bif Nat.blt pc 1085 then (bif Nat.beq pc 1083 then some (.iload 4, 2, 4, 0, 0, mj_u) else none) else
       (bif Nat.beq pc 1085 then some (.iconst 2, 1, 0, 0, 0, .int 2) else none))) else
     (bif Nat.blt pc 1088 then (bif Nat.blt pc 1087 then (bif Nat.beq pc 1086 then some (.iadd, 1, 0, 0, 0, mj_u) else none) else
       (bif Nat.beq pc 1087 then some (.iaload, 1, 0, 0, 0, mj_u) else none)) else
      (bif Nat.blt pc 1089 then (bif Nat.beq pc 1088 then some (.aload_n 0, 1, 0, 0, 0, mj_u) else none) else
       (bif Nat.beq pc 1089 then some (.iload 4, 2, 4, 0, 0, mj_u) else none))))) else
   (bif Nat.blt pc 1101 then (bif Nat.blt pc 1094 then (bif Nat.blt pc 1092 then (bif Nat.beq pc 1091 then some (.iconst 3, 1, 0, 0, 0, .int 3) else none) else
      (bif Nat.blt pc 1093 then (bif Nat.beq pc 1092 then some (.iadd, 1, 0, 0, 0, mj_u) else none) else
       (bif Nat.beq pc 1093 then some (.iaload, 1, 0, 0, 0, mj_u) else none))) else
     (bif Nat.blt pc 1098 then (bif Nat.blt pc 1095 then (bif Nat.beq pc 1094 then some (.aload_n 3, 1, 3, 0, 0, mj_u) else none) else
       (bif Nat.beq pc 1095 then some (.invokestatic 155, 3, 1002, 0, 759, mj_u) else none)) else
      (bif Nat.blt pc 1100 then (bif Nat.beq pc 1098 then some (.istore 5, 2, 5, 0, 0, mj_u) else none) else
       (bif Nat.beq pc 1100 then some (.aload_n 2, 1, 2, 0, 0, mj_u) else none)))) else
    (bif Nat.blt pc 1105 then (bif Nat.blt pc 1102 then (bif Nat.beq pc 1101 then some (.aload_n 0, 1, 0, 0, 0, mj_u) else none) else
      (bif Nat.blt pc 1104 then (bif Nat.beq pc 1102 then some (.iload 4, 2, 4, 0, 0, mj_u) else none) else
       (bif Nat.beq pc 1104 then some (.iconst 1, 1, 0, 0, 0, .int 1) else none))) else
     (bif Nat.blt pc 1107 then (bif Nat.blt pc 1106 then (bif Nat.beq pc 1105 then some (.iadd, 1, 0, 0, 0, mj_u) else none) else
       (bif Nat.beq pc 1106 then some (.iaload, 1, 0, 0, 0, mj_u) else none)) else
      (bif Nat.blt pc 1108 then (bif Nat.beq pc 1107 then some (.aload_n 0, 1, 0, 0, 0, mj_u) else none) else
       (bif Nat.beq pc 1108 then some (.iload 4, 2, 4, 0, 0, mj_u) else none)))))) else
  (bif Nat.blt pc 1133 then (bif Nat.blt pc 1118 then (bif Nat.blt pc 1113 then (bif Nat.blt pc 1111 then (bif Nat.beq pc 1110 then some (.iconst 2, 1, 0, 0, 0, .int 2) else none) else
      (bif Nat.blt pc 1112 then (bif Nat.beq pc 1111 then some (.iadd, 1, 0, 0, 0, mj_u) else none) else
       (bif Nat.beq pc 1112 then some (.iaload, 1, 0, 0, 0, mj_u) else none))) else
     (bif Nat.blt pc 1116 then (bif Nat.blt pc 1114 then (bif Nat.beq pc 1113 then some (.aload_n 0, 1, 0, 0, 0, mj_u) else none) else
       (bif Nat.beq pc 1114 then some (.iload 4, 2, 4, 0, 0, mj_u) else none)) else
      (bif Nat.blt pc 1117 then (bif Nat.beq pc 1116 then some (.iconst 3, 1, 0, 0, 0, .int 3) else none) else
       (bif Nat.beq pc 1117 then some (.iadd, 1, 0, 0, 0, mj_u) else none)))) else
    (bif Nat.blt pc 1124 then (bif Nat.blt pc 1119 then (bif Nat.beq pc 1118 then some (.iaload, 1, 0, 0, 0, mj_u) else none) else
      (bif Nat.blt pc 1122 then (bif Nat.beq pc 1119 then some (.invokevirtual 157, 3, 166, 0, 1148, mj_u) else none) else
       (bif Nat.beq pc 1122 then some (.istore 6, 2, 6, 0, 0, mj_u) else none))) else
     (bif Nat.blt pc 1128 then (bif Nat.blt pc 1125 then (bif Nat.beq pc 1124 then some (.aload_n 2, 1, 2, 0, 0, mj_u) else none) else
       (bif Nat.beq pc 1125 then some (.invokevirtual 89, 3, 113, 0, 914, mj_u) else none)) else
      (bif Nat.blt pc 1130 then (bif Nat.beq pc 1128 then some (.iload 5, 2, 5, 0, 0, mj_u) else none) else
       (bif Nat.beq pc 1130 then some (.if_icmp .eq 5, 3, 1135, 0, 0, mj_u) else none))))) else
   (bif Nat.blt pc 1143 then (bif Nat.blt pc 1137 then (bif Nat.blt pc 1134 then (bif Nat.beq pc 1133 then some (.iconst 0, 1, 0, 0, 0, .int 0) else none) else
      (bif Nat.blt pc 1135 then (bif Nat.beq pc 1134 then some (.ireturn, 1, 0, 0, 0, mj_u) else none) else
       (bif Nat.beq pc 1135 then some (.iload 5, 2, 5, 0, 0, mj_u) else none))) else
     (bif Nat.blt pc 1141 then (bif Nat.blt pc 1140 then (bif Nat.beq pc 1137 then some (.ifCond .ne 15, 3, 1152, 0, 0, mj_u) else none) else
       (bif Nat.beq pc 1140 then some (.aload_n 3, 1, 3, 0, 0, mj_u) else none)) else
      (bif Nat.blt pc 1142 then (bif Nat.beq pc 1141 then some (.iconst 0, 1, 0, 0, 0, .int 0) else none) else
       (bif Nat.beq pc 1142 then some (.laload, 1, 0, 0, 0, mj_u) else none)))) else
    (bif Nat.blt pc 1147 then (bif Nat.blt pc 1145 then (bif Nat.beq pc 1143 then some (.iload 6, 2, 6, 0, 0, mj_u) else none) else
      (bif Nat.blt pc 1146 then (bif Nat.beq pc 1145 then some (.i2l, 1, 0, 0, 0, mj_u) else none) else
       (bif Nat.beq pc 1146 then some (.lcmp, 1, 0, 0, 0, mj_u) else none))) else
     (bif Nat.blt pc 1151 then (bif Nat.blt pc 1150 then (bif Nat.beq pc 1147 then some (.ifCond .eq 5, 3, 1152, 0, 0, mj_u) else none) else
       (bif Nat.beq pc 1150 then some (.iconst 0, 1, 0, 0, 0, .int 0) else none)) else
      (bif Nat.blt pc 1152 then (bif Nat.beq pc 1151 then some (.ireturn, 1, 0, 0, 0, mj_u) else none) else
       (bif Nat.beq pc 1152 then some (.goto 754, 3, 1906, 0, 0, mj_u) else none))))))
def k_law_1155 : Nat → Option mj_I := fun pc =>
  bif Nat.blt pc 1160 then (bif Nat.blt pc 1156 then (bif Nat.beq pc 1155 then some (.aload_n 1, 1, 1, 0, 0, mj_u) else none) else
   (bif Nat.blt pc 1159 then (bif Nat.beq pc 1156 then some (.invokevirtual 158, 3, 48, 0, 460, mj_u) else none) else
    (bif Nat.beq pc 1159 then some (.aload_n 2, 1, 2, 0, 0, mj_u) else none))) else
  (bif Nat.blt pc 1166 then (bif Nat.blt pc 1163 then (bif Nat.beq pc 1160 then some (.invokevirtual 161, 3, 167, 0, 1152, mj_u) else none) else
    (bif Nat.beq pc 1163 then some (.if_icmp .eq 743, 3, 1906, 0, 0, mj_u) else none)) else
   (bif Nat.blt pc 1167 then (bif Nat.beq pc 1166 then some (.iconst 0, 1, 0, 0, 0, .int 0) else none) else
    (bif Nat.beq pc 1167 then some (.ireturn, 1, 0, 0, 0, mj_u) else none)))
def k_law_1168 : Nat → Option mj_I := fun pc =>
  bif Nat.blt pc 1197 then (bif Nat.blt pc 1181 then (bif Nat.blt pc 1174 then (bif Nat.blt pc 1170 then (bif Nat.blt pc 1169 then (bif Nat.beq pc 1168 then some (.aload_n 1, 1, 1, 0, 0, mj_u) else none) else
      (bif Nat.beq pc 1169 then some (.aload_n 0, 1, 0, 0, 0, mj_u) else none)) else
     (bif Nat.blt pc 1172 then (bif Nat.beq pc 1170 then some (.iload 4, 2, 4, 0, 0, mj_u) else none) else
      (bif Nat.blt pc 1173 then (bif Nat.beq pc 1172 then some (.iconst 1, 1, 0, 0, 0, .int 1) else none) else
       (bif Nat.beq pc 1173 then some (.iadd, 1, 0, 0, 0, mj_u) else none)))) else
    (bif Nat.blt pc 1178 then (bif Nat.blt pc 1175 then (bif Nat.beq pc 1174 then some (.iaload, 1, 0, 0, 0, mj_u) else none) else
      (bif Nat.blt pc 1176 then (bif Nat.beq pc 1175 then some (.aload_n 0, 1, 0, 0, 0, mj_u) else none) else
       (bif Nat.beq pc 1176 then some (.iload 4, 2, 4, 0, 0, mj_u) else none))) else
     (bif Nat.blt pc 1179 then (bif Nat.beq pc 1178 then some (.iconst 2, 1, 0, 0, 0, .int 2) else none) else
      (bif Nat.blt pc 1180 then (bif Nat.beq pc 1179 then some (.iadd, 1, 0, 0, 0, mj_u) else none) else
       (bif Nat.beq pc 1180 then some (.iaload, 1, 0, 0, 0, mj_u) else none))))) else
   (bif Nat.blt pc 1189 then (bif Nat.blt pc 1185 then (bif Nat.blt pc 1182 then (bif Nat.beq pc 1181 then some (.aload_n 3, 1, 3, 0, 0, mj_u) else none) else
      (bif Nat.beq pc 1182 then some (.invokestatic 162, 3, 1002, 0, 779, mj_u) else none)) else
     (bif Nat.blt pc 1187 then (bif Nat.beq pc 1185 then some (.istore 5, 2, 5, 0, 0, mj_u) else none) else
      (bif Nat.blt pc 1188 then (bif Nat.beq pc 1187 then some (.aload_n 2, 1, 2, 0, 0, mj_u) else none) else
       (bif Nat.beq pc 1188 then some (.aload_n 0, 1, 0, 0, 0, mj_u) else none)))) else
    (bif Nat.blt pc 1193 then (bif Nat.blt pc 1191 then (bif Nat.beq pc 1189 then some (.iload 4, 2, 4, 0, 0, mj_u) else none) else
      (bif Nat.blt pc 1192 then (bif Nat.beq pc 1191 then some (.iconst 1, 1, 0, 0, 0, .int 1) else none) else
       (bif Nat.beq pc 1192 then some (.iadd, 1, 0, 0, 0, mj_u) else none))) else
     (bif Nat.blt pc 1194 then (bif Nat.beq pc 1193 then some (.iaload, 1, 0, 0, 0, mj_u) else none) else
      (bif Nat.blt pc 1195 then (bif Nat.beq pc 1194 then some (.aload_n 0, 1, 0, 0, 0, mj_u) else none) else
       (bif Nat.beq pc 1195 then some (.iload 4, 2, 4, 0, 0, mj_u) else none)))))) else
  (bif Nat.blt pc 1216 then (bif Nat.blt pc 1205 then (bif Nat.blt pc 1199 then (bif Nat.blt pc 1198 then (bif Nat.beq pc 1197 then some (.iconst 2, 1, 0, 0, 0, .int 2) else none) else
      (bif Nat.beq pc 1198 then some (.iadd, 1, 0, 0, 0, mj_u) else none)) else
     (bif Nat.blt pc 1200 then (bif Nat.beq pc 1199 then some (.iaload, 1, 0, 0, 0, mj_u) else none) else
      (bif Nat.blt pc 1203 then (bif Nat.beq pc 1200 then some (.invokevirtual 164, 3, 168, 0, 1156, mj_u) else none) else
       (bif Nat.beq pc 1203 then some (.istore 6, 2, 6, 0, 0, mj_u) else none)))) else
    (bif Nat.blt pc 1211 then (bif Nat.blt pc 1206 then (bif Nat.beq pc 1205 then some (.aload_n 2, 1, 2, 0, 0, mj_u) else none) else
      (bif Nat.blt pc 1209 then (bif Nat.beq pc 1206 then some (.invokevirtual 89, 3, 113, 0, 914, mj_u) else none) else
       (bif Nat.beq pc 1209 then some (.iload 5, 2, 5, 0, 0, mj_u) else none))) else
     (bif Nat.blt pc 1214 then (bif Nat.beq pc 1211 then some (.if_icmp .eq 5, 3, 1216, 0, 0, mj_u) else none) else
      (bif Nat.blt pc 1215 then (bif Nat.beq pc 1214 then some (.iconst 0, 1, 0, 0, 0, .int 0) else none) else
       (bif Nat.beq pc 1215 then some (.ireturn, 1, 0, 0, 0, mj_u) else none))))) else
   (bif Nat.blt pc 1226 then (bif Nat.blt pc 1222 then (bif Nat.blt pc 1218 then (bif Nat.beq pc 1216 then some (.iload 5, 2, 5, 0, 0, mj_u) else none) else
      (bif Nat.blt pc 1221 then (bif Nat.beq pc 1218 then some (.ifCond .ne 15, 3, 1233, 0, 0, mj_u) else none) else
       (bif Nat.beq pc 1221 then some (.aload_n 3, 1, 3, 0, 0, mj_u) else none))) else
     (bif Nat.blt pc 1223 then (bif Nat.beq pc 1222 then some (.iconst 0, 1, 0, 0, 0, .int 0) else none) else
      (bif Nat.blt pc 1224 then (bif Nat.beq pc 1223 then some (.laload, 1, 0, 0, 0, mj_u) else none) else
       (bif Nat.beq pc 1224 then some (.iload 6, 2, 6, 0, 0, mj_u) else none)))) else
    (bif Nat.blt pc 1231 then (bif Nat.blt pc 1227 then (bif Nat.beq pc 1226 then some (.i2l, 1, 0, 0, 0, mj_u) else none) else
      (bif Nat.blt pc 1228 then (bif Nat.beq pc 1227 then some (.lcmp, 1, 0, 0, 0, mj_u) else none) else
       (bif Nat.beq pc 1228 then some (.ifCond .eq 5, 3, 1233, 0, 0, mj_u) else none))) else
     (bif Nat.blt pc 1232 then (bif Nat.beq pc 1231 then some (.iconst 0, 1, 0, 0, 0, .int 0) else none) else
      (bif Nat.blt pc 1233 then (bif Nat.beq pc 1232 then some (.ireturn, 1, 0, 0, 0, mj_u) else none) else
       (bif Nat.beq pc 1233 then some (.goto 673, 3, 1906, 0, 0, mj_u) else none))))))
def k_law_1236 : Nat → Option mj_I := fun pc =>
  bif Nat.blt pc 1285 then (bif Nat.blt pc 1259 then (bif Nat.blt pc 1247 then (bif Nat.blt pc 1241 then (bif Nat.blt pc 1238 then (bif Nat.blt pc 1237 then (bif Nat.beq pc 1236 then some (.aload_n 1, 1, 1, 0, 0, mj_u) else none) else
       (bif Nat.beq pc 1237 then some (.aload_n 0, 1, 0, 0, 0, mj_u) else none)) else
      (bif Nat.blt pc 1240 then (bif Nat.beq pc 1238 then some (.iload 4, 2, 4, 0, 0, mj_u) else none) else
       (bif Nat.beq pc 1240 then some (.iconst 1, 1, 0, 0, 0, .int 1) else none))) else
     (bif Nat.blt pc 1243 then (bif Nat.blt pc 1242 then (bif Nat.beq pc 1241 then some (.iadd, 1, 0, 0, 0, mj_u) else none) else
       (bif Nat.beq pc 1242 then some (.iaload, 1, 0, 0, 0, mj_u) else none)) else
      (bif Nat.blt pc 1244 then (bif Nat.beq pc 1243 then some (.aload_n 0, 1, 0, 0, 0, mj_u) else none) else
       (bif Nat.blt pc 1246 then (bif Nat.beq pc 1244 then some (.iload 4, 2, 4, 0, 0, mj_u) else none) else
        (bif Nat.beq pc 1246 then some (.iconst 2, 1, 0, 0, 0, .int 2) else none))))) else
    (bif Nat.blt pc 1253 then (bif Nat.blt pc 1249 then (bif Nat.blt pc 1248 then (bif Nat.beq pc 1247 then some (.iadd, 1, 0, 0, 0, mj_u) else none) else
       (bif Nat.beq pc 1248 then some (.iaload, 1, 0, 0, 0, mj_u) else none)) else
      (bif Nat.blt pc 1250 then (bif Nat.beq pc 1249 then some (.aload_n 0, 1, 0, 0, 0, mj_u) else none) else
       (bif Nat.blt pc 1252 then (bif Nat.beq pc 1250 then some (.iload 4, 2, 4, 0, 0, mj_u) else none) else
        (bif Nat.beq pc 1252 then some (.iconst 3, 1, 0, 0, 0, .int 3) else none)))) else
     (bif Nat.blt pc 1255 then (bif Nat.blt pc 1254 then (bif Nat.beq pc 1253 then some (.iadd, 1, 0, 0, 0, mj_u) else none) else
       (bif Nat.beq pc 1254 then some (.iaload, 1, 0, 0, 0, mj_u) else none)) else
      (bif Nat.blt pc 1256 then (bif Nat.beq pc 1255 then some (.aload_n 0, 1, 0, 0, 0, mj_u) else none) else
       (bif Nat.blt pc 1258 then (bif Nat.beq pc 1256 then some (.iload 4, 2, 4, 0, 0, mj_u) else none) else
        (bif Nat.beq pc 1258 then some (.iconst 4, 1, 0, 0, 0, .int 4) else none)))))) else
   (bif Nat.blt pc 1273 then (bif Nat.blt pc 1265 then (bif Nat.blt pc 1261 then (bif Nat.blt pc 1260 then (bif Nat.beq pc 1259 then some (.iadd, 1, 0, 0, 0, mj_u) else none) else
       (bif Nat.beq pc 1260 then some (.iaload, 1, 0, 0, 0, mj_u) else none)) else
      (bif Nat.blt pc 1262 then (bif Nat.beq pc 1261 then some (.aload_n 0, 1, 0, 0, 0, mj_u) else none) else
       (bif Nat.blt pc 1264 then (bif Nat.beq pc 1262 then some (.iload 4, 2, 4, 0, 0, mj_u) else none) else
        (bif Nat.beq pc 1264 then some (.iconst 5, 1, 0, 0, 0, .int 5) else none)))) else
     (bif Nat.blt pc 1267 then (bif Nat.blt pc 1266 then (bif Nat.beq pc 1265 then some (.iadd, 1, 0, 0, 0, mj_u) else none) else
       (bif Nat.beq pc 1266 then some (.iaload, 1, 0, 0, 0, mj_u) else none)) else
      (bif Nat.blt pc 1268 then (bif Nat.beq pc 1267 then some (.aload_n 3, 1, 3, 0, 0, mj_u) else none) else
       (bif Nat.blt pc 1271 then (bif Nat.beq pc 1268 then some (.invokestatic 165, 3, 1002, 0, 786, mj_u) else none) else
        (bif Nat.beq pc 1271 then some (.istore 5, 2, 5, 0, 0, mj_u) else none))))) else
    (bif Nat.blt pc 1279 then (bif Nat.blt pc 1275 then (bif Nat.blt pc 1274 then (bif Nat.beq pc 1273 then some (.aload_n 2, 1, 2, 0, 0, mj_u) else none) else
       (bif Nat.beq pc 1274 then some (.aload_n 0, 1, 0, 0, 0, mj_u) else none)) else
      (bif Nat.blt pc 1277 then (bif Nat.beq pc 1275 then some (.iload 4, 2, 4, 0, 0, mj_u) else none) else
       (bif Nat.blt pc 1278 then (bif Nat.beq pc 1277 then some (.iconst 1, 1, 0, 0, 0, .int 1) else none) else
        (bif Nat.beq pc 1278 then some (.iadd, 1, 0, 0, 0, mj_u) else none)))) else
     (bif Nat.blt pc 1281 then (bif Nat.blt pc 1280 then (bif Nat.beq pc 1279 then some (.iaload, 1, 0, 0, 0, mj_u) else none) else
       (bif Nat.beq pc 1280 then some (.aload_n 0, 1, 0, 0, 0, mj_u) else none)) else
      (bif Nat.blt pc 1283 then (bif Nat.beq pc 1281 then some (.iload 4, 2, 4, 0, 0, mj_u) else none) else
       (bif Nat.blt pc 1284 then (bif Nat.beq pc 1283 then some (.iconst 2, 1, 0, 0, 0, .int 2) else none) else
        (bif Nat.beq pc 1284 then some (.iadd, 1, 0, 0, 0, mj_u) else none))))))) else
  (bif Nat.blt pc 1310 then (bif Nat.blt pc 1296 then (bif Nat.blt pc 1290 then (bif Nat.blt pc 1287 then (bif Nat.blt pc 1286 then (bif Nat.beq pc 1285 then some (.iaload, 1, 0, 0, 0, mj_u) else none) else
       (bif Nat.beq pc 1286 then some (.aload_n 0, 1, 0, 0, 0, mj_u) else none)) else
      (bif Nat.blt pc 1289 then (bif Nat.beq pc 1287 then some (.iload 4, 2, 4, 0, 0, mj_u) else none) else
       (bif Nat.beq pc 1289 then some (.iconst 3, 1, 0, 0, 0, .int 3) else none))) else
     (bif Nat.blt pc 1292 then (bif Nat.blt pc 1291 then (bif Nat.beq pc 1290 then some (.iadd, 1, 0, 0, 0, mj_u) else none) else
       (bif Nat.beq pc 1291 then some (.iaload, 1, 0, 0, 0, mj_u) else none)) else
      (bif Nat.blt pc 1293 then (bif Nat.beq pc 1292 then some (.aload_n 0, 1, 0, 0, 0, mj_u) else none) else
       (bif Nat.blt pc 1295 then (bif Nat.beq pc 1293 then some (.iload 4, 2, 4, 0, 0, mj_u) else none) else
        (bif Nat.beq pc 1295 then some (.iconst 4, 1, 0, 0, 0, .int 4) else none))))) else
    (bif Nat.blt pc 1302 then (bif Nat.blt pc 1298 then (bif Nat.blt pc 1297 then (bif Nat.beq pc 1296 then some (.iadd, 1, 0, 0, 0, mj_u) else none) else
       (bif Nat.beq pc 1297 then some (.iaload, 1, 0, 0, 0, mj_u) else none)) else
      (bif Nat.blt pc 1299 then (bif Nat.beq pc 1298 then some (.aload_n 0, 1, 0, 0, 0, mj_u) else none) else
       (bif Nat.blt pc 1301 then (bif Nat.beq pc 1299 then some (.iload 4, 2, 4, 0, 0, mj_u) else none) else
        (bif Nat.beq pc 1301 then some (.iconst 5, 1, 0, 0, 0, .int 5) else none)))) else
     (bif Nat.blt pc 1304 then (bif Nat.blt pc 1303 then (bif Nat.beq pc 1302 then some (.iadd, 1, 0, 0, 0, mj_u) else none) else
       (bif Nat.beq pc 1303 then some (.iaload, 1, 0, 0, 0, mj_u) else none)) else
      (bif Nat.blt pc 1307 then (bif Nat.beq pc 1304 then some (.invokevirtual 167, 3, 178, 0, 1303, mj_u) else none) else
       (bif Nat.blt pc 1309 then (bif Nat.beq pc 1307 then some (.istore 6, 2, 6, 0, 0, mj_u) else none) else
        (bif Nat.beq pc 1309 then some (.aload_n 2, 1, 2, 0, 0, mj_u) else none)))))) else
   (bif Nat.blt pc 1328 then (bif Nat.blt pc 1320 then (bif Nat.blt pc 1315 then (bif Nat.blt pc 1313 then (bif Nat.beq pc 1310 then some (.invokevirtual 89, 3, 113, 0, 914, mj_u) else none) else
       (bif Nat.beq pc 1313 then some (.iload 5, 2, 5, 0, 0, mj_u) else none)) else
      (bif Nat.blt pc 1318 then (bif Nat.beq pc 1315 then some (.if_icmp .eq 5, 3, 1320, 0, 0, mj_u) else none) else
       (bif Nat.blt pc 1319 then (bif Nat.beq pc 1318 then some (.iconst 0, 1, 0, 0, 0, .int 0) else none) else
        (bif Nat.beq pc 1319 then some (.ireturn, 1, 0, 0, 0, mj_u) else none)))) else
     (bif Nat.blt pc 1325 then (bif Nat.blt pc 1322 then (bif Nat.beq pc 1320 then some (.iload 5, 2, 5, 0, 0, mj_u) else none) else
       (bif Nat.beq pc 1322 then some (.ifCond .ne 22, 3, 1344, 0, 0, mj_u) else none)) else
      (bif Nat.blt pc 1326 then (bif Nat.beq pc 1325 then some (.aload_n 3, 1, 3, 0, 0, mj_u) else none) else
       (bif Nat.blt pc 1327 then (bif Nat.beq pc 1326 then some (.iconst 0, 1, 0, 0, 0, .int 0) else none) else
        (bif Nat.beq pc 1327 then some (.laload, 1, 0, 0, 0, mj_u) else none))))) else
    (bif Nat.blt pc 1338 then (bif Nat.blt pc 1333 then (bif Nat.blt pc 1330 then (bif Nat.beq pc 1328 then some (.iload 6, 2, 6, 0, 0, mj_u) else none) else
       (bif Nat.beq pc 1330 then some (.ifCond .eq 7, 3, 1337, 0, 0, mj_u) else none)) else
      (bif Nat.blt pc 1334 then (bif Nat.beq pc 1333 then some (.lconst 1, 1, 0, 0, 0, .long 1) else none) else
       (bif Nat.blt pc 1337 then (bif Nat.beq pc 1334 then some (.goto 4, 3, 1338, 0, 0, mj_u) else none) else
        (bif Nat.beq pc 1337 then some (.lconst 0, 1, 0, 0, 0, .long 0) else none)))) else
     (bif Nat.blt pc 1342 then (bif Nat.blt pc 1339 then (bif Nat.beq pc 1338 then some (.lcmp, 1, 0, 0, 0, mj_u) else none) else
       (bif Nat.beq pc 1339 then some (.ifCond .eq 5, 3, 1344, 0, 0, mj_u) else none)) else
      (bif Nat.blt pc 1343 then (bif Nat.beq pc 1342 then some (.iconst 0, 1, 0, 0, 0, .int 0) else none) else
       (bif Nat.blt pc 1344 then (bif Nat.beq pc 1343 then some (.ireturn, 1, 0, 0, 0, mj_u) else none) else
        (bif Nat.beq pc 1344 then some (.goto 562, 3, 1906, 0, 0, mj_u) else none)))))))
def k_law_1347 : Nat → Option mj_I := fun pc =>
  bif Nat.blt pc 1382 then (bif Nat.blt pc 1363 then (bif Nat.blt pc 1354 then (bif Nat.blt pc 1351 then (bif Nat.blt pc 1348 then (bif Nat.beq pc 1347 then some (.aload_n 1, 1, 1, 0, 0, mj_u) else none) else
      (bif Nat.blt pc 1349 then (bif Nat.beq pc 1348 then some (.aload_n 0, 1, 0, 0, 0, mj_u) else none) else
       (bif Nat.beq pc 1349 then some (.iload 4, 2, 4, 0, 0, mj_u) else none))) else
     (bif Nat.blt pc 1352 then (bif Nat.beq pc 1351 then some (.iconst 1, 1, 0, 0, 0, .int 1) else none) else
      (bif Nat.blt pc 1353 then (bif Nat.beq pc 1352 then some (.iadd, 1, 0, 0, 0, mj_u) else none) else
       (bif Nat.beq pc 1353 then some (.iaload, 1, 0, 0, 0, mj_u) else none)))) else
    (bif Nat.blt pc 1358 then (bif Nat.blt pc 1355 then (bif Nat.beq pc 1354 then some (.aload_n 0, 1, 0, 0, 0, mj_u) else none) else
      (bif Nat.blt pc 1357 then (bif Nat.beq pc 1355 then some (.iload 4, 2, 4, 0, 0, mj_u) else none) else
       (bif Nat.beq pc 1357 then some (.iconst 2, 1, 0, 0, 0, .int 2) else none))) else
     (bif Nat.blt pc 1360 then (bif Nat.blt pc 1359 then (bif Nat.beq pc 1358 then some (.iadd, 1, 0, 0, 0, mj_u) else none) else
       (bif Nat.beq pc 1359 then some (.iaload, 1, 0, 0, 0, mj_u) else none)) else
      (bif Nat.blt pc 1361 then (bif Nat.beq pc 1360 then some (.aload_n 0, 1, 0, 0, 0, mj_u) else none) else
       (bif Nat.beq pc 1361 then some (.iload 4, 2, 4, 0, 0, mj_u) else none))))) else
   (bif Nat.blt pc 1373 then (bif Nat.blt pc 1366 then (bif Nat.blt pc 1364 then (bif Nat.beq pc 1363 then some (.iconst 3, 1, 0, 0, 0, .int 3) else none) else
      (bif Nat.blt pc 1365 then (bif Nat.beq pc 1364 then some (.iadd, 1, 0, 0, 0, mj_u) else none) else
       (bif Nat.beq pc 1365 then some (.iaload, 1, 0, 0, 0, mj_u) else none))) else
     (bif Nat.blt pc 1370 then (bif Nat.blt pc 1367 then (bif Nat.beq pc 1366 then some (.aload_n 3, 1, 3, 0, 0, mj_u) else none) else
       (bif Nat.beq pc 1367 then some (.invokestatic 168, 3, 1002, 0, 800, mj_u) else none)) else
      (bif Nat.blt pc 1372 then (bif Nat.beq pc 1370 then some (.istore 5, 2, 5, 0, 0, mj_u) else none) else
       (bif Nat.beq pc 1372 then some (.aload_n 2, 1, 2, 0, 0, mj_u) else none)))) else
    (bif Nat.blt pc 1377 then (bif Nat.blt pc 1374 then (bif Nat.beq pc 1373 then some (.aload_n 0, 1, 0, 0, 0, mj_u) else none) else
      (bif Nat.blt pc 1376 then (bif Nat.beq pc 1374 then some (.iload 4, 2, 4, 0, 0, mj_u) else none) else
       (bif Nat.beq pc 1376 then some (.iconst 1, 1, 0, 0, 0, .int 1) else none))) else
     (bif Nat.blt pc 1379 then (bif Nat.blt pc 1378 then (bif Nat.beq pc 1377 then some (.iadd, 1, 0, 0, 0, mj_u) else none) else
       (bif Nat.beq pc 1378 then some (.iaload, 1, 0, 0, 0, mj_u) else none)) else
      (bif Nat.blt pc 1380 then (bif Nat.beq pc 1379 then some (.aload_n 0, 1, 0, 0, 0, mj_u) else none) else
       (bif Nat.beq pc 1380 then some (.iload 4, 2, 4, 0, 0, mj_u) else none)))))) else
  (bif Nat.blt pc 1405 then (bif Nat.blt pc 1390 then (bif Nat.blt pc 1385 then (bif Nat.blt pc 1383 then (bif Nat.beq pc 1382 then some (.iconst 2, 1, 0, 0, 0, .int 2) else none) else
      (bif Nat.blt pc 1384 then (bif Nat.beq pc 1383 then some (.iadd, 1, 0, 0, 0, mj_u) else none) else
       (bif Nat.beq pc 1384 then some (.iaload, 1, 0, 0, 0, mj_u) else none))) else
     (bif Nat.blt pc 1388 then (bif Nat.blt pc 1386 then (bif Nat.beq pc 1385 then some (.aload_n 0, 1, 0, 0, 0, mj_u) else none) else
       (bif Nat.beq pc 1386 then some (.iload 4, 2, 4, 0, 0, mj_u) else none)) else
      (bif Nat.blt pc 1389 then (bif Nat.beq pc 1388 then some (.iconst 3, 1, 0, 0, 0, .int 3) else none) else
       (bif Nat.beq pc 1389 then some (.iadd, 1, 0, 0, 0, mj_u) else none)))) else
    (bif Nat.blt pc 1396 then (bif Nat.blt pc 1391 then (bif Nat.beq pc 1390 then some (.iaload, 1, 0, 0, 0, mj_u) else none) else
      (bif Nat.blt pc 1394 then (bif Nat.beq pc 1391 then some (.invokevirtual 170, 3, 180, 0, 1313, mj_u) else none) else
       (bif Nat.beq pc 1394 then some (.istore 6, 2, 6, 0, 0, mj_u) else none))) else
     (bif Nat.blt pc 1400 then (bif Nat.blt pc 1397 then (bif Nat.beq pc 1396 then some (.aload_n 2, 1, 2, 0, 0, mj_u) else none) else
       (bif Nat.beq pc 1397 then some (.invokevirtual 89, 3, 113, 0, 914, mj_u) else none)) else
      (bif Nat.blt pc 1402 then (bif Nat.beq pc 1400 then some (.iload 5, 2, 5, 0, 0, mj_u) else none) else
       (bif Nat.beq pc 1402 then some (.if_icmp .eq 5, 3, 1407, 0, 0, mj_u) else none))))) else
   (bif Nat.blt pc 1415 then (bif Nat.blt pc 1409 then (bif Nat.blt pc 1406 then (bif Nat.beq pc 1405 then some (.iconst 0, 1, 0, 0, 0, .int 0) else none) else
      (bif Nat.blt pc 1407 then (bif Nat.beq pc 1406 then some (.ireturn, 1, 0, 0, 0, mj_u) else none) else
       (bif Nat.beq pc 1407 then some (.iload 5, 2, 5, 0, 0, mj_u) else none))) else
     (bif Nat.blt pc 1413 then (bif Nat.blt pc 1412 then (bif Nat.beq pc 1409 then some (.ifCond .ne 15, 3, 1424, 0, 0, mj_u) else none) else
       (bif Nat.beq pc 1412 then some (.aload_n 3, 1, 3, 0, 0, mj_u) else none)) else
      (bif Nat.blt pc 1414 then (bif Nat.beq pc 1413 then some (.iconst 0, 1, 0, 0, 0, .int 0) else none) else
       (bif Nat.beq pc 1414 then some (.laload, 1, 0, 0, 0, mj_u) else none)))) else
    (bif Nat.blt pc 1419 then (bif Nat.blt pc 1417 then (bif Nat.beq pc 1415 then some (.iload 6, 2, 6, 0, 0, mj_u) else none) else
      (bif Nat.blt pc 1418 then (bif Nat.beq pc 1417 then some (.i2l, 1, 0, 0, 0, mj_u) else none) else
       (bif Nat.beq pc 1418 then some (.lcmp, 1, 0, 0, 0, mj_u) else none))) else
     (bif Nat.blt pc 1423 then (bif Nat.blt pc 1422 then (bif Nat.beq pc 1419 then some (.ifCond .eq 5, 3, 1424, 0, 0, mj_u) else none) else
       (bif Nat.beq pc 1422 then some (.iconst 0, 1, 0, 0, 0, .int 0) else none)) else
      (bif Nat.blt pc 1424 then (bif Nat.beq pc 1423 then some (.ireturn, 1, 0, 0, 0, mj_u) else none) else
       (bif Nat.beq pc 1424 then some (.goto 482, 3, 1906, 0, 0, mj_u) else none))))))
def k_law_1427 : Nat → Option mj_I := fun pc =>
  bif Nat.blt pc 1468 then (bif Nat.blt pc 1446 then (bif Nat.blt pc 1437 then (bif Nat.blt pc 1432 then (bif Nat.blt pc 1429 then (bif Nat.blt pc 1428 then (bif Nat.beq pc 1427 then some (.aload_n 1, 1, 1, 0, 0, mj_u) else none) else
       (bif Nat.beq pc 1428 then some (.aload_n 0, 1, 0, 0, 0, mj_u) else none)) else
      (bif Nat.blt pc 1431 then (bif Nat.beq pc 1429 then some (.iload 4, 2, 4, 0, 0, mj_u) else none) else
       (bif Nat.beq pc 1431 then some (.iconst 1, 1, 0, 0, 0, .int 1) else none))) else
     (bif Nat.blt pc 1434 then (bif Nat.blt pc 1433 then (bif Nat.beq pc 1432 then some (.iadd, 1, 0, 0, 0, mj_u) else none) else
       (bif Nat.beq pc 1433 then some (.iaload, 1, 0, 0, 0, mj_u) else none)) else
      (bif Nat.blt pc 1435 then (bif Nat.beq pc 1434 then some (.aload_n 0, 1, 0, 0, 0, mj_u) else none) else
       (bif Nat.beq pc 1435 then some (.iload 4, 2, 4, 0, 0, mj_u) else none)))) else
    (bif Nat.blt pc 1441 then (bif Nat.blt pc 1439 then (bif Nat.blt pc 1438 then (bif Nat.beq pc 1437 then some (.iconst 2, 1, 0, 0, 0, .int 2) else none) else
       (bif Nat.beq pc 1438 then some (.iadd, 1, 0, 0, 0, mj_u) else none)) else
      (bif Nat.blt pc 1440 then (bif Nat.beq pc 1439 then some (.iaload, 1, 0, 0, 0, mj_u) else none) else
       (bif Nat.beq pc 1440 then some (.aload_n 0, 1, 0, 0, 0, mj_u) else none))) else
     (bif Nat.blt pc 1444 then (bif Nat.blt pc 1443 then (bif Nat.beq pc 1441 then some (.iload 4, 2, 4, 0, 0, mj_u) else none) else
       (bif Nat.beq pc 1443 then some (.iconst 3, 1, 0, 0, 0, .int 3) else none)) else
      (bif Nat.blt pc 1445 then (bif Nat.beq pc 1444 then some (.iadd, 1, 0, 0, 0, mj_u) else none) else
       (bif Nat.beq pc 1445 then some (.iaload, 1, 0, 0, 0, mj_u) else none))))) else
   (bif Nat.blt pc 1458 then (bif Nat.blt pc 1451 then (bif Nat.blt pc 1449 then (bif Nat.blt pc 1447 then (bif Nat.beq pc 1446 then some (.aload_n 0, 1, 0, 0, 0, mj_u) else none) else
       (bif Nat.beq pc 1447 then some (.iload 4, 2, 4, 0, 0, mj_u) else none)) else
      (bif Nat.blt pc 1450 then (bif Nat.beq pc 1449 then some (.iconst 4, 1, 0, 0, 0, .int 4) else none) else
       (bif Nat.beq pc 1450 then some (.iadd, 1, 0, 0, 0, mj_u) else none))) else
     (bif Nat.blt pc 1453 then (bif Nat.blt pc 1452 then (bif Nat.beq pc 1451 then some (.iaload, 1, 0, 0, 0, mj_u) else none) else
       (bif Nat.beq pc 1452 then some (.aload_n 3, 1, 3, 0, 0, mj_u) else none)) else
      (bif Nat.blt pc 1456 then (bif Nat.beq pc 1453 then some (.invokestatic 171, 3, 1002, 0, 812, mj_u) else none) else
       (bif Nat.beq pc 1456 then some (.istore 5, 2, 5, 0, 0, mj_u) else none)))) else
    (bif Nat.blt pc 1463 then (bif Nat.blt pc 1460 then (bif Nat.blt pc 1459 then (bif Nat.beq pc 1458 then some (.aload_n 2, 1, 2, 0, 0, mj_u) else none) else
       (bif Nat.beq pc 1459 then some (.aload_n 0, 1, 0, 0, 0, mj_u) else none)) else
      (bif Nat.blt pc 1462 then (bif Nat.beq pc 1460 then some (.iload 4, 2, 4, 0, 0, mj_u) else none) else
       (bif Nat.beq pc 1462 then some (.iconst 1, 1, 0, 0, 0, .int 1) else none))) else
     (bif Nat.blt pc 1465 then (bif Nat.blt pc 1464 then (bif Nat.beq pc 1463 then some (.iadd, 1, 0, 0, 0, mj_u) else none) else
       (bif Nat.beq pc 1464 then some (.iaload, 1, 0, 0, 0, mj_u) else none)) else
      (bif Nat.blt pc 1466 then (bif Nat.beq pc 1465 then some (.aload_n 0, 1, 0, 0, 0, mj_u) else none) else
       (bif Nat.beq pc 1466 then some (.iload 4, 2, 4, 0, 0, mj_u) else none)))))) else
  (bif Nat.blt pc 1489 then (bif Nat.blt pc 1477 then (bif Nat.blt pc 1472 then (bif Nat.blt pc 1470 then (bif Nat.blt pc 1469 then (bif Nat.beq pc 1468 then some (.iconst 2, 1, 0, 0, 0, .int 2) else none) else
       (bif Nat.beq pc 1469 then some (.iadd, 1, 0, 0, 0, mj_u) else none)) else
      (bif Nat.blt pc 1471 then (bif Nat.beq pc 1470 then some (.iaload, 1, 0, 0, 0, mj_u) else none) else
       (bif Nat.beq pc 1471 then some (.aload_n 0, 1, 0, 0, 0, mj_u) else none))) else
     (bif Nat.blt pc 1475 then (bif Nat.blt pc 1474 then (bif Nat.beq pc 1472 then some (.iload 4, 2, 4, 0, 0, mj_u) else none) else
       (bif Nat.beq pc 1474 then some (.iconst 3, 1, 0, 0, 0, .int 3) else none)) else
      (bif Nat.blt pc 1476 then (bif Nat.beq pc 1475 then some (.iadd, 1, 0, 0, 0, mj_u) else none) else
       (bif Nat.beq pc 1476 then some (.iaload, 1, 0, 0, 0, mj_u) else none)))) else
    (bif Nat.blt pc 1482 then (bif Nat.blt pc 1480 then (bif Nat.blt pc 1478 then (bif Nat.beq pc 1477 then some (.aload_n 0, 1, 0, 0, 0, mj_u) else none) else
       (bif Nat.beq pc 1478 then some (.iload 4, 2, 4, 0, 0, mj_u) else none)) else
      (bif Nat.blt pc 1481 then (bif Nat.beq pc 1480 then some (.iconst 4, 1, 0, 0, 0, .int 4) else none) else
       (bif Nat.beq pc 1481 then some (.iadd, 1, 0, 0, 0, mj_u) else none))) else
     (bif Nat.blt pc 1486 then (bif Nat.blt pc 1483 then (bif Nat.beq pc 1482 then some (.iaload, 1, 0, 0, 0, mj_u) else none) else
       (bif Nat.beq pc 1483 then some (.invokevirtual 173, 3, 182, 0, 1322, mj_u) else none)) else
      (bif Nat.blt pc 1488 then (bif Nat.beq pc 1486 then some (.istore 6, 2, 6, 0, 0, mj_u) else none) else
       (bif Nat.beq pc 1488 then some (.aload_n 2, 1, 2, 0, 0, mj_u) else none))))) else
   (bif Nat.blt pc 1505 then (bif Nat.blt pc 1498 then (bif Nat.blt pc 1494 then (bif Nat.blt pc 1492 then (bif Nat.beq pc 1489 then some (.invokevirtual 89, 3, 113, 0, 914, mj_u) else none) else
       (bif Nat.beq pc 1492 then some (.iload 5, 2, 5, 0, 0, mj_u) else none)) else
      (bif Nat.blt pc 1497 then (bif Nat.beq pc 1494 then some (.if_icmp .eq 5, 3, 1499, 0, 0, mj_u) else none) else
       (bif Nat.beq pc 1497 then some (.iconst 0, 1, 0, 0, 0, .int 0) else none))) else
     (bif Nat.blt pc 1501 then (bif Nat.blt pc 1499 then (bif Nat.beq pc 1498 then some (.ireturn, 1, 0, 0, 0, mj_u) else none) else
       (bif Nat.beq pc 1499 then some (.iload 5, 2, 5, 0, 0, mj_u) else none)) else
      (bif Nat.blt pc 1504 then (bif Nat.beq pc 1501 then some (.ifCond .ne 15, 3, 1516, 0, 0, mj_u) else none) else
       (bif Nat.beq pc 1504 then some (.aload_n 3, 1, 3, 0, 0, mj_u) else none)))) else
    (bif Nat.blt pc 1510 then (bif Nat.blt pc 1507 then (bif Nat.blt pc 1506 then (bif Nat.beq pc 1505 then some (.iconst 0, 1, 0, 0, 0, .int 0) else none) else
       (bif Nat.beq pc 1506 then some (.laload, 1, 0, 0, 0, mj_u) else none)) else
      (bif Nat.blt pc 1509 then (bif Nat.beq pc 1507 then some (.iload 6, 2, 6, 0, 0, mj_u) else none) else
       (bif Nat.beq pc 1509 then some (.i2l, 1, 0, 0, 0, mj_u) else none))) else
     (bif Nat.blt pc 1514 then (bif Nat.blt pc 1511 then (bif Nat.beq pc 1510 then some (.lcmp, 1, 0, 0, 0, mj_u) else none) else
       (bif Nat.beq pc 1511 then some (.ifCond .eq 5, 3, 1516, 0, 0, mj_u) else none)) else
      (bif Nat.blt pc 1515 then (bif Nat.beq pc 1514 then some (.iconst 0, 1, 0, 0, 0, .int 0) else none) else
       (bif Nat.blt pc 1516 then (bif Nat.beq pc 1515 then some (.ireturn, 1, 0, 0, 0, mj_u) else none) else
        (bif Nat.beq pc 1516 then some (.goto 390, 3, 1906, 0, 0, mj_u) else none)))))))
def k_law_1519 : Nat → Option mj_I := fun pc =>
  bif Nat.blt pc 1566 then (bif Nat.blt pc 1541 then (bif Nat.blt pc 1530 then (bif Nat.blt pc 1524 then (bif Nat.blt pc 1521 then (bif Nat.blt pc 1520 then (bif Nat.beq pc 1519 then some (.aload_n 1, 1, 1, 0, 0, mj_u) else none) else
       (bif Nat.beq pc 1520 then some (.aload_n 0, 1, 0, 0, 0, mj_u) else none)) else
      (bif Nat.blt pc 1523 then (bif Nat.beq pc 1521 then some (.iload 4, 2, 4, 0, 0, mj_u) else none) else
       (bif Nat.beq pc 1523 then some (.iconst 1, 1, 0, 0, 0, .int 1) else none))) else
     (bif Nat.blt pc 1526 then (bif Nat.blt pc 1525 then (bif Nat.beq pc 1524 then some (.iadd, 1, 0, 0, 0, mj_u) else none) else
       (bif Nat.beq pc 1525 then some (.iaload, 1, 0, 0, 0, mj_u) else none)) else
      (bif Nat.blt pc 1527 then (bif Nat.beq pc 1526 then some (.aload_n 0, 1, 0, 0, 0, mj_u) else none) else
       (bif Nat.blt pc 1529 then (bif Nat.beq pc 1527 then some (.iload 4, 2, 4, 0, 0, mj_u) else none) else
        (bif Nat.beq pc 1529 then some (.iconst 2, 1, 0, 0, 0, .int 2) else none))))) else
    (bif Nat.blt pc 1535 then (bif Nat.blt pc 1532 then (bif Nat.blt pc 1531 then (bif Nat.beq pc 1530 then some (.iadd, 1, 0, 0, 0, mj_u) else none) else
       (bif Nat.beq pc 1531 then some (.iaload, 1, 0, 0, 0, mj_u) else none)) else
      (bif Nat.blt pc 1533 then (bif Nat.beq pc 1532 then some (.aload_n 0, 1, 0, 0, 0, mj_u) else none) else
       (bif Nat.beq pc 1533 then some (.iload 4, 2, 4, 0, 0, mj_u) else none))) else
     (bif Nat.blt pc 1537 then (bif Nat.blt pc 1536 then (bif Nat.beq pc 1535 then some (.iconst 3, 1, 0, 0, 0, .int 3) else none) else
       (bif Nat.beq pc 1536 then some (.iadd, 1, 0, 0, 0, mj_u) else none)) else
      (bif Nat.blt pc 1538 then (bif Nat.beq pc 1537 then some (.iaload, 1, 0, 0, 0, mj_u) else none) else
       (bif Nat.blt pc 1539 then (bif Nat.beq pc 1538 then some (.aload_n 0, 1, 0, 0, 0, mj_u) else none) else
        (bif Nat.beq pc 1539 then some (.iload 4, 2, 4, 0, 0, mj_u) else none)))))) else
   (bif Nat.blt pc 1551 then (bif Nat.blt pc 1545 then (bif Nat.blt pc 1543 then (bif Nat.blt pc 1542 then (bif Nat.beq pc 1541 then some (.iconst 4, 1, 0, 0, 0, .int 4) else none) else
       (bif Nat.beq pc 1542 then some (.iadd, 1, 0, 0, 0, mj_u) else none)) else
      (bif Nat.blt pc 1544 then (bif Nat.beq pc 1543 then some (.iaload, 1, 0, 0, 0, mj_u) else none) else
       (bif Nat.beq pc 1544 then some (.aload_n 0, 1, 0, 0, 0, mj_u) else none))) else
     (bif Nat.blt pc 1548 then (bif Nat.blt pc 1547 then (bif Nat.beq pc 1545 then some (.iload 4, 2, 4, 0, 0, mj_u) else none) else
       (bif Nat.beq pc 1547 then some (.iconst 5, 1, 0, 0, 0, .int 5) else none)) else
      (bif Nat.blt pc 1549 then (bif Nat.beq pc 1548 then some (.iadd, 1, 0, 0, 0, mj_u) else none) else
       (bif Nat.blt pc 1550 then (bif Nat.beq pc 1549 then some (.iaload, 1, 0, 0, 0, mj_u) else none) else
        (bif Nat.beq pc 1550 then some (.aload_n 3, 1, 3, 0, 0, mj_u) else none))))) else
    (bif Nat.blt pc 1560 then (bif Nat.blt pc 1556 then (bif Nat.blt pc 1554 then (bif Nat.beq pc 1551 then some (.invokestatic 174, 3, 1002, 0, 839, mj_u) else none) else
       (bif Nat.beq pc 1554 then some (.istore 5, 2, 5, 0, 0, mj_u) else none)) else
      (bif Nat.blt pc 1557 then (bif Nat.beq pc 1556 then some (.aload_n 2, 1, 2, 0, 0, mj_u) else none) else
       (bif Nat.blt pc 1558 then (bif Nat.beq pc 1557 then some (.aload_n 0, 1, 0, 0, 0, mj_u) else none) else
        (bif Nat.beq pc 1558 then some (.iload 4, 2, 4, 0, 0, mj_u) else none)))) else
     (bif Nat.blt pc 1562 then (bif Nat.blt pc 1561 then (bif Nat.beq pc 1560 then some (.iconst 1, 1, 0, 0, 0, .int 1) else none) else
       (bif Nat.beq pc 1561 then some (.iadd, 1, 0, 0, 0, mj_u) else none)) else
      (bif Nat.blt pc 1563 then (bif Nat.beq pc 1562 then some (.iaload, 1, 0, 0, 0, mj_u) else none) else
       (bif Nat.blt pc 1564 then (bif Nat.beq pc 1563 then some (.aload_n 0, 1, 0, 0, 0, mj_u) else none) else
        (bif Nat.beq pc 1564 then some (.iload 4, 2, 4, 0, 0, mj_u) else none))))))) else
  (bif Nat.blt pc 1590 then (bif Nat.blt pc 1576 then (bif Nat.blt pc 1570 then (bif Nat.blt pc 1568 then (bif Nat.blt pc 1567 then (bif Nat.beq pc 1566 then some (.iconst 2, 1, 0, 0, 0, .int 2) else none) else
       (bif Nat.beq pc 1567 then some (.iadd, 1, 0, 0, 0, mj_u) else none)) else
      (bif Nat.blt pc 1569 then (bif Nat.beq pc 1568 then some (.iaload, 1, 0, 0, 0, mj_u) else none) else
       (bif Nat.beq pc 1569 then some (.aload_n 0, 1, 0, 0, 0, mj_u) else none))) else
     (bif Nat.blt pc 1573 then (bif Nat.blt pc 1572 then (bif Nat.beq pc 1570 then some (.iload 4, 2, 4, 0, 0, mj_u) else none) else
       (bif Nat.beq pc 1572 then some (.iconst 3, 1, 0, 0, 0, .int 3) else none)) else
      (bif Nat.blt pc 1574 then (bif Nat.beq pc 1573 then some (.iadd, 1, 0, 0, 0, mj_u) else none) else
       (bif Nat.blt pc 1575 then (bif Nat.beq pc 1574 then some (.iaload, 1, 0, 0, 0, mj_u) else none) else
        (bif Nat.beq pc 1575 then some (.aload_n 0, 1, 0, 0, 0, mj_u) else none))))) else
    (bif Nat.blt pc 1582 then (bif Nat.blt pc 1579 then (bif Nat.blt pc 1578 then (bif Nat.beq pc 1576 then some (.iload 4, 2, 4, 0, 0, mj_u) else none) else
       (bif Nat.beq pc 1578 then some (.iconst 4, 1, 0, 0, 0, .int 4) else none)) else
      (bif Nat.blt pc 1580 then (bif Nat.beq pc 1579 then some (.iadd, 1, 0, 0, 0, mj_u) else none) else
       (bif Nat.blt pc 1581 then (bif Nat.beq pc 1580 then some (.iaload, 1, 0, 0, 0, mj_u) else none) else
        (bif Nat.beq pc 1581 then some (.aload_n 0, 1, 0, 0, 0, mj_u) else none)))) else
     (bif Nat.blt pc 1585 then (bif Nat.blt pc 1584 then (bif Nat.beq pc 1582 then some (.iload 4, 2, 4, 0, 0, mj_u) else none) else
       (bif Nat.beq pc 1584 then some (.iconst 5, 1, 0, 0, 0, .int 5) else none)) else
      (bif Nat.blt pc 1586 then (bif Nat.beq pc 1585 then some (.iadd, 1, 0, 0, 0, mj_u) else none) else
       (bif Nat.blt pc 1587 then (bif Nat.beq pc 1586 then some (.iaload, 1, 0, 0, 0, mj_u) else none) else
        (bif Nat.beq pc 1587 then some (.invokevirtual 176, 3, 185, 0, 1335, mj_u) else none)))))) else
   (bif Nat.blt pc 1608 then (bif Nat.blt pc 1598 then (bif Nat.blt pc 1593 then (bif Nat.blt pc 1592 then (bif Nat.beq pc 1590 then some (.istore 6, 2, 6, 0, 0, mj_u) else none) else
       (bif Nat.beq pc 1592 then some (.aload_n 2, 1, 2, 0, 0, mj_u) else none)) else
      (bif Nat.blt pc 1596 then (bif Nat.beq pc 1593 then some (.invokevirtual 89, 3, 113, 0, 914, mj_u) else none) else
       (bif Nat.beq pc 1596 then some (.iload 5, 2, 5, 0, 0, mj_u) else none))) else
     (bif Nat.blt pc 1602 then (bif Nat.blt pc 1601 then (bif Nat.beq pc 1598 then some (.if_icmp .eq 5, 3, 1603, 0, 0, mj_u) else none) else
       (bif Nat.beq pc 1601 then some (.iconst 0, 1, 0, 0, 0, .int 0) else none)) else
      (bif Nat.blt pc 1603 then (bif Nat.beq pc 1602 then some (.ireturn, 1, 0, 0, 0, mj_u) else none) else
       (bif Nat.blt pc 1605 then (bif Nat.beq pc 1603 then some (.iload 5, 2, 5, 0, 0, mj_u) else none) else
        (bif Nat.beq pc 1605 then some (.ifCond .ne 15, 3, 1620, 0, 0, mj_u) else none))))) else
    (bif Nat.blt pc 1614 then (bif Nat.blt pc 1610 then (bif Nat.blt pc 1609 then (bif Nat.beq pc 1608 then some (.aload_n 3, 1, 3, 0, 0, mj_u) else none) else
       (bif Nat.beq pc 1609 then some (.iconst 0, 1, 0, 0, 0, .int 0) else none)) else
      (bif Nat.blt pc 1611 then (bif Nat.beq pc 1610 then some (.laload, 1, 0, 0, 0, mj_u) else none) else
       (bif Nat.blt pc 1613 then (bif Nat.beq pc 1611 then some (.iload 6, 2, 6, 0, 0, mj_u) else none) else
        (bif Nat.beq pc 1613 then some (.i2l, 1, 0, 0, 0, mj_u) else none)))) else
     (bif Nat.blt pc 1618 then (bif Nat.blt pc 1615 then (bif Nat.beq pc 1614 then some (.lcmp, 1, 0, 0, 0, mj_u) else none) else
       (bif Nat.beq pc 1615 then some (.ifCond .eq 5, 3, 1620, 0, 0, mj_u) else none)) else
      (bif Nat.blt pc 1619 then (bif Nat.beq pc 1618 then some (.iconst 0, 1, 0, 0, 0, .int 0) else none) else
       (bif Nat.blt pc 1620 then (bif Nat.beq pc 1619 then some (.ireturn, 1, 0, 0, 0, mj_u) else none) else
        (bif Nat.beq pc 1620 then some (.goto 286, 3, 1906, 0, 0, mj_u) else none)))))))
def k_law_1623 : Nat → Option mj_I := fun pc =>
  bif Nat.blt pc 1643 then (bif Nat.blt pc 1633 then (bif Nat.blt pc 1627 then (bif Nat.blt pc 1624 then (bif Nat.beq pc 1623 then some (.aload_n 1, 1, 1, 0, 0, mj_u) else none) else
     (bif Nat.beq pc 1624 then some (.invokevirtual 177, 3, 50, 0, 468, mj_u) else none)) else
    (bif Nat.blt pc 1629 then (bif Nat.beq pc 1627 then some (.dstore 5, 2, 5, 0, 0, mj_u) else none) else
     (bif Nat.blt pc 1630 then (bif Nat.beq pc 1629 then some (.aload_n 2, 1, 2, 0, 0, mj_u) else none) else
      (bif Nat.beq pc 1630 then some (.invokevirtual 181, 3, 187, 0, 1344, mj_u) else none)))) else
   (bif Nat.blt pc 1637 then (bif Nat.blt pc 1635 then (bif Nat.beq pc 1633 then some (.dstore 7, 2, 7, 0, 0, mj_u) else none) else
     (bif Nat.beq pc 1635 then some (.dload 5, 2, 5, 0, 0, mj_u) else none)) else
    (bif Nat.blt pc 1639 then (bif Nat.beq pc 1637 then some (.dload 7, 2, 7, 0, 0, mj_u) else none) else
     (bif Nat.blt pc 1640 then (bif Nat.beq pc 1639 then some (.dcmp .l, 1, 0, 0, 0, mj_u) else none) else
      (bif Nat.beq pc 1640 then some (.ifCond .eq 21, 3, 1661, 0, 0, mj_u) else none))))) else
  (bif Nat.blt pc 1653 then (bif Nat.blt pc 1647 then (bif Nat.blt pc 1645 then (bif Nat.beq pc 1643 then some (.dload 5, 2, 5, 0, 0, mj_u) else none) else
     (bif Nat.beq pc 1645 then some (.dload 5, 2, 5, 0, 0, mj_u) else none)) else
    (bif Nat.blt pc 1648 then (bif Nat.beq pc 1647 then some (.dcmp .l, 1, 0, 0, 0, mj_u) else none) else
     (bif Nat.blt pc 1651 then (bif Nat.beq pc 1648 then some (.ifCond .eq 11, 3, 1659, 0, 0, mj_u) else none) else
      (bif Nat.beq pc 1651 then some (.dload 7, 2, 7, 0, 0, mj_u) else none)))) else
   (bif Nat.blt pc 1659 then (bif Nat.blt pc 1655 then (bif Nat.beq pc 1653 then some (.dload 7, 2, 7, 0, 0, mj_u) else none) else
     (bif Nat.blt pc 1656 then (bif Nat.beq pc 1655 then some (.dcmp .l, 1, 0, 0, 0, mj_u) else none) else
      (bif Nat.beq pc 1656 then some (.ifCond .ne 5, 3, 1661, 0, 0, mj_u) else none))) else
    (bif Nat.blt pc 1660 then (bif Nat.beq pc 1659 then some (.iconst 0, 1, 0, 0, 0, .int 0) else none) else
     (bif Nat.blt pc 1661 then (bif Nat.beq pc 1660 then some (.ireturn, 1, 0, 0, 0, mj_u) else none) else
      (bif Nat.beq pc 1661 then some (.goto 245, 3, 1906, 0, 0, mj_u) else none)))))
def k_law_1664 : Nat → Option mj_I := fun pc =>
  bif Nat.blt pc 1699 then (bif Nat.blt pc 1680 then (bif Nat.blt pc 1671 then (bif Nat.blt pc 1668 then (bif Nat.blt pc 1665 then (bif Nat.beq pc 1664 then some (.aload_n 1, 1, 1, 0, 0, mj_u) else none) else
      (bif Nat.blt pc 1666 then (bif Nat.beq pc 1665 then some (.aload_n 0, 1, 0, 0, 0, mj_u) else none) else
       (bif Nat.beq pc 1666 then some (.iload 4, 2, 4, 0, 0, mj_u) else none))) else
     (bif Nat.blt pc 1669 then (bif Nat.beq pc 1668 then some (.iconst 1, 1, 0, 0, 0, .int 1) else none) else
      (bif Nat.blt pc 1670 then (bif Nat.beq pc 1669 then some (.iadd, 1, 0, 0, 0, mj_u) else none) else
       (bif Nat.beq pc 1670 then some (.iaload, 1, 0, 0, 0, mj_u) else none)))) else
    (bif Nat.blt pc 1675 then (bif Nat.blt pc 1672 then (bif Nat.beq pc 1671 then some (.aload_n 0, 1, 0, 0, 0, mj_u) else none) else
      (bif Nat.blt pc 1674 then (bif Nat.beq pc 1672 then some (.iload 4, 2, 4, 0, 0, mj_u) else none) else
       (bif Nat.beq pc 1674 then some (.iconst 2, 1, 0, 0, 0, .int 2) else none))) else
     (bif Nat.blt pc 1677 then (bif Nat.blt pc 1676 then (bif Nat.beq pc 1675 then some (.iadd, 1, 0, 0, 0, mj_u) else none) else
       (bif Nat.beq pc 1676 then some (.iaload, 1, 0, 0, 0, mj_u) else none)) else
      (bif Nat.blt pc 1678 then (bif Nat.beq pc 1677 then some (.aload_n 0, 1, 0, 0, 0, mj_u) else none) else
       (bif Nat.beq pc 1678 then some (.iload 4, 2, 4, 0, 0, mj_u) else none))))) else
   (bif Nat.blt pc 1690 then (bif Nat.blt pc 1683 then (bif Nat.blt pc 1681 then (bif Nat.beq pc 1680 then some (.iconst 3, 1, 0, 0, 0, .int 3) else none) else
      (bif Nat.blt pc 1682 then (bif Nat.beq pc 1681 then some (.iadd, 1, 0, 0, 0, mj_u) else none) else
       (bif Nat.beq pc 1682 then some (.iaload, 1, 0, 0, 0, mj_u) else none))) else
     (bif Nat.blt pc 1687 then (bif Nat.blt pc 1684 then (bif Nat.beq pc 1683 then some (.aload_n 3, 1, 3, 0, 0, mj_u) else none) else
       (bif Nat.beq pc 1684 then some (.invokestatic 182, 3, 1002, 0, 855, mj_u) else none)) else
      (bif Nat.blt pc 1689 then (bif Nat.beq pc 1687 then some (.istore 5, 2, 5, 0, 0, mj_u) else none) else
       (bif Nat.beq pc 1689 then some (.aload_n 2, 1, 2, 0, 0, mj_u) else none)))) else
    (bif Nat.blt pc 1694 then (bif Nat.blt pc 1691 then (bif Nat.beq pc 1690 then some (.aload_n 0, 1, 0, 0, 0, mj_u) else none) else
      (bif Nat.blt pc 1693 then (bif Nat.beq pc 1691 then some (.iload 4, 2, 4, 0, 0, mj_u) else none) else
       (bif Nat.beq pc 1693 then some (.iconst 1, 1, 0, 0, 0, .int 1) else none))) else
     (bif Nat.blt pc 1696 then (bif Nat.blt pc 1695 then (bif Nat.beq pc 1694 then some (.iadd, 1, 0, 0, 0, mj_u) else none) else
       (bif Nat.beq pc 1695 then some (.iaload, 1, 0, 0, 0, mj_u) else none)) else
      (bif Nat.blt pc 1697 then (bif Nat.beq pc 1696 then some (.aload_n 0, 1, 0, 0, 0, mj_u) else none) else
       (bif Nat.beq pc 1697 then some (.iload 4, 2, 4, 0, 0, mj_u) else none)))))) else
  (bif Nat.blt pc 1722 then (bif Nat.blt pc 1707 then (bif Nat.blt pc 1702 then (bif Nat.blt pc 1700 then (bif Nat.beq pc 1699 then some (.iconst 2, 1, 0, 0, 0, .int 2) else none) else
      (bif Nat.blt pc 1701 then (bif Nat.beq pc 1700 then some (.iadd, 1, 0, 0, 0, mj_u) else none) else
       (bif Nat.beq pc 1701 then some (.iaload, 1, 0, 0, 0, mj_u) else none))) else
     (bif Nat.blt pc 1705 then (bif Nat.blt pc 1703 then (bif Nat.beq pc 1702 then some (.aload_n 0, 1, 0, 0, 0, mj_u) else none) else
       (bif Nat.beq pc 1703 then some (.iload 4, 2, 4, 0, 0, mj_u) else none)) else
      (bif Nat.blt pc 1706 then (bif Nat.beq pc 1705 then some (.iconst 3, 1, 0, 0, 0, .int 3) else none) else
       (bif Nat.beq pc 1706 then some (.iadd, 1, 0, 0, 0, mj_u) else none)))) else
    (bif Nat.blt pc 1713 then (bif Nat.blt pc 1708 then (bif Nat.beq pc 1707 then some (.iaload, 1, 0, 0, 0, mj_u) else none) else
      (bif Nat.blt pc 1711 then (bif Nat.beq pc 1708 then some (.invokevirtual 184, 3, 189, 0, 1352, mj_u) else none) else
       (bif Nat.beq pc 1711 then some (.istore 6, 2, 6, 0, 0, mj_u) else none))) else
     (bif Nat.blt pc 1717 then (bif Nat.blt pc 1714 then (bif Nat.beq pc 1713 then some (.aload_n 2, 1, 2, 0, 0, mj_u) else none) else
       (bif Nat.beq pc 1714 then some (.invokevirtual 89, 3, 113, 0, 914, mj_u) else none)) else
      (bif Nat.blt pc 1719 then (bif Nat.beq pc 1717 then some (.iload 5, 2, 5, 0, 0, mj_u) else none) else
       (bif Nat.beq pc 1719 then some (.if_icmp .eq 5, 3, 1724, 0, 0, mj_u) else none))))) else
   (bif Nat.blt pc 1732 then (bif Nat.blt pc 1726 then (bif Nat.blt pc 1723 then (bif Nat.beq pc 1722 then some (.iconst 0, 1, 0, 0, 0, .int 0) else none) else
      (bif Nat.blt pc 1724 then (bif Nat.beq pc 1723 then some (.ireturn, 1, 0, 0, 0, mj_u) else none) else
       (bif Nat.beq pc 1724 then some (.iload 5, 2, 5, 0, 0, mj_u) else none))) else
     (bif Nat.blt pc 1730 then (bif Nat.blt pc 1729 then (bif Nat.beq pc 1726 then some (.ifCond .ne 15, 3, 1741, 0, 0, mj_u) else none) else
       (bif Nat.beq pc 1729 then some (.aload_n 3, 1, 3, 0, 0, mj_u) else none)) else
      (bif Nat.blt pc 1731 then (bif Nat.beq pc 1730 then some (.iconst 0, 1, 0, 0, 0, .int 0) else none) else
       (bif Nat.beq pc 1731 then some (.laload, 1, 0, 0, 0, mj_u) else none)))) else
    (bif Nat.blt pc 1736 then (bif Nat.blt pc 1734 then (bif Nat.beq pc 1732 then some (.iload 6, 2, 6, 0, 0, mj_u) else none) else
      (bif Nat.blt pc 1735 then (bif Nat.beq pc 1734 then some (.i2l, 1, 0, 0, 0, mj_u) else none) else
       (bif Nat.beq pc 1735 then some (.lcmp, 1, 0, 0, 0, mj_u) else none))) else
     (bif Nat.blt pc 1740 then (bif Nat.blt pc 1739 then (bif Nat.beq pc 1736 then some (.ifCond .eq 5, 3, 1741, 0, 0, mj_u) else none) else
       (bif Nat.beq pc 1739 then some (.iconst 0, 1, 0, 0, 0, .int 0) else none)) else
      (bif Nat.blt pc 1741 then (bif Nat.beq pc 1740 then some (.ireturn, 1, 0, 0, 0, mj_u) else none) else
       (bif Nat.beq pc 1741 then some (.goto 165, 3, 1906, 0, 0, mj_u) else none))))))
def k_law_1744 : Nat → Option mj_I := fun pc =>
  bif Nat.blt pc 1779 then (bif Nat.blt pc 1760 then (bif Nat.blt pc 1751 then (bif Nat.blt pc 1748 then (bif Nat.blt pc 1745 then (bif Nat.beq pc 1744 then some (.aload_n 1, 1, 1, 0, 0, mj_u) else none) else
      (bif Nat.blt pc 1746 then (bif Nat.beq pc 1745 then some (.aload_n 0, 1, 0, 0, 0, mj_u) else none) else
       (bif Nat.beq pc 1746 then some (.iload 4, 2, 4, 0, 0, mj_u) else none))) else
     (bif Nat.blt pc 1749 then (bif Nat.beq pc 1748 then some (.iconst 1, 1, 0, 0, 0, .int 1) else none) else
      (bif Nat.blt pc 1750 then (bif Nat.beq pc 1749 then some (.iadd, 1, 0, 0, 0, mj_u) else none) else
       (bif Nat.beq pc 1750 then some (.iaload, 1, 0, 0, 0, mj_u) else none)))) else
    (bif Nat.blt pc 1755 then (bif Nat.blt pc 1752 then (bif Nat.beq pc 1751 then some (.aload_n 0, 1, 0, 0, 0, mj_u) else none) else
      (bif Nat.blt pc 1754 then (bif Nat.beq pc 1752 then some (.iload 4, 2, 4, 0, 0, mj_u) else none) else
       (bif Nat.beq pc 1754 then some (.iconst 2, 1, 0, 0, 0, .int 2) else none))) else
     (bif Nat.blt pc 1757 then (bif Nat.blt pc 1756 then (bif Nat.beq pc 1755 then some (.iadd, 1, 0, 0, 0, mj_u) else none) else
       (bif Nat.beq pc 1756 then some (.iaload, 1, 0, 0, 0, mj_u) else none)) else
      (bif Nat.blt pc 1758 then (bif Nat.beq pc 1757 then some (.aload_n 0, 1, 0, 0, 0, mj_u) else none) else
       (bif Nat.beq pc 1758 then some (.iload 4, 2, 4, 0, 0, mj_u) else none))))) else
   (bif Nat.blt pc 1770 then (bif Nat.blt pc 1763 then (bif Nat.blt pc 1761 then (bif Nat.beq pc 1760 then some (.iconst 3, 1, 0, 0, 0, .int 3) else none) else
      (bif Nat.blt pc 1762 then (bif Nat.beq pc 1761 then some (.iadd, 1, 0, 0, 0, mj_u) else none) else
       (bif Nat.beq pc 1762 then some (.iaload, 1, 0, 0, 0, mj_u) else none))) else
     (bif Nat.blt pc 1767 then (bif Nat.blt pc 1764 then (bif Nat.beq pc 1763 then some (.aload_n 3, 1, 3, 0, 0, mj_u) else none) else
       (bif Nat.beq pc 1764 then some (.invokestatic 185, 3, 1002, 0, 862, mj_u) else none)) else
      (bif Nat.blt pc 1769 then (bif Nat.beq pc 1767 then some (.istore 5, 2, 5, 0, 0, mj_u) else none) else
       (bif Nat.beq pc 1769 then some (.aload_n 2, 1, 2, 0, 0, mj_u) else none)))) else
    (bif Nat.blt pc 1774 then (bif Nat.blt pc 1771 then (bif Nat.beq pc 1770 then some (.aload_n 0, 1, 0, 0, 0, mj_u) else none) else
      (bif Nat.blt pc 1773 then (bif Nat.beq pc 1771 then some (.iload 4, 2, 4, 0, 0, mj_u) else none) else
       (bif Nat.beq pc 1773 then some (.iconst 1, 1, 0, 0, 0, .int 1) else none))) else
     (bif Nat.blt pc 1776 then (bif Nat.blt pc 1775 then (bif Nat.beq pc 1774 then some (.iadd, 1, 0, 0, 0, mj_u) else none) else
       (bif Nat.beq pc 1775 then some (.iaload, 1, 0, 0, 0, mj_u) else none)) else
      (bif Nat.blt pc 1777 then (bif Nat.beq pc 1776 then some (.aload_n 0, 1, 0, 0, 0, mj_u) else none) else
       (bif Nat.beq pc 1777 then some (.iload 4, 2, 4, 0, 0, mj_u) else none)))))) else
  (bif Nat.blt pc 1802 then (bif Nat.blt pc 1787 then (bif Nat.blt pc 1782 then (bif Nat.blt pc 1780 then (bif Nat.beq pc 1779 then some (.iconst 2, 1, 0, 0, 0, .int 2) else none) else
      (bif Nat.blt pc 1781 then (bif Nat.beq pc 1780 then some (.iadd, 1, 0, 0, 0, mj_u) else none) else
       (bif Nat.beq pc 1781 then some (.iaload, 1, 0, 0, 0, mj_u) else none))) else
     (bif Nat.blt pc 1785 then (bif Nat.blt pc 1783 then (bif Nat.beq pc 1782 then some (.aload_n 0, 1, 0, 0, 0, mj_u) else none) else
       (bif Nat.beq pc 1783 then some (.iload 4, 2, 4, 0, 0, mj_u) else none)) else
      (bif Nat.blt pc 1786 then (bif Nat.beq pc 1785 then some (.iconst 3, 1, 0, 0, 0, .int 3) else none) else
       (bif Nat.beq pc 1786 then some (.iadd, 1, 0, 0, 0, mj_u) else none)))) else
    (bif Nat.blt pc 1793 then (bif Nat.blt pc 1788 then (bif Nat.beq pc 1787 then some (.iaload, 1, 0, 0, 0, mj_u) else none) else
      (bif Nat.blt pc 1791 then (bif Nat.beq pc 1788 then some (.invokevirtual 187, 3, 190, 0, 1356, mj_u) else none) else
       (bif Nat.beq pc 1791 then some (.istore 6, 2, 6, 0, 0, mj_u) else none))) else
     (bif Nat.blt pc 1797 then (bif Nat.blt pc 1794 then (bif Nat.beq pc 1793 then some (.aload_n 2, 1, 2, 0, 0, mj_u) else none) else
       (bif Nat.beq pc 1794 then some (.invokevirtual 89, 3, 113, 0, 914, mj_u) else none)) else
      (bif Nat.blt pc 1799 then (bif Nat.beq pc 1797 then some (.iload 5, 2, 5, 0, 0, mj_u) else none) else
       (bif Nat.beq pc 1799 then some (.if_icmp .eq 5, 3, 1804, 0, 0, mj_u) else none))))) else
   (bif Nat.blt pc 1812 then (bif Nat.blt pc 1806 then (bif Nat.blt pc 1803 then (bif Nat.beq pc 1802 then some (.iconst 0, 1, 0, 0, 0, .int 0) else none) else
      (bif Nat.blt pc 1804 then (bif Nat.beq pc 1803 then some (.ireturn, 1, 0, 0, 0, mj_u) else none) else
       (bif Nat.beq pc 1804 then some (.iload 5, 2, 5, 0, 0, mj_u) else none))) else
     (bif Nat.blt pc 1810 then (bif Nat.blt pc 1809 then (bif Nat.beq pc 1806 then some (.ifCond .ne 15, 3, 1821, 0, 0, mj_u) else none) else
       (bif Nat.beq pc 1809 then some (.aload_n 3, 1, 3, 0, 0, mj_u) else none)) else
      (bif Nat.blt pc 1811 then (bif Nat.beq pc 1810 then some (.iconst 0, 1, 0, 0, 0, .int 0) else none) else
       (bif Nat.beq pc 1811 then some (.laload, 1, 0, 0, 0, mj_u) else none)))) else
    (bif Nat.blt pc 1816 then (bif Nat.blt pc 1814 then (bif Nat.beq pc 1812 then some (.iload 6, 2, 6, 0, 0, mj_u) else none) else
      (bif Nat.blt pc 1815 then (bif Nat.beq pc 1814 then some (.i2l, 1, 0, 0, 0, mj_u) else none) else
       (bif Nat.beq pc 1815 then some (.lcmp, 1, 0, 0, 0, mj_u) else none))) else
     (bif Nat.blt pc 1820 then (bif Nat.blt pc 1819 then (bif Nat.beq pc 1816 then some (.ifCond .eq 5, 3, 1821, 0, 0, mj_u) else none) else
       (bif Nat.beq pc 1819 then some (.iconst 0, 1, 0, 0, 0, .int 0) else none)) else
      (bif Nat.blt pc 1821 then (bif Nat.beq pc 1820 then some (.ireturn, 1, 0, 0, 0, mj_u) else none) else
       (bif Nat.beq pc 1821 then some (.goto 85, 3, 1906, 0, 0, mj_u) else none))))))
def k_law_1824 : Nat → Option mj_I := fun pc =>
  bif Nat.blt pc 1853 then (bif Nat.blt pc 1837 then (bif Nat.blt pc 1830 then (bif Nat.blt pc 1826 then (bif Nat.blt pc 1825 then (bif Nat.beq pc 1824 then some (.aload_n 1, 1, 1, 0, 0, mj_u) else none) else
      (bif Nat.beq pc 1825 then some (.aload_n 0, 1, 0, 0, 0, mj_u) else none)) else
     (bif Nat.blt pc 1828 then (bif Nat.beq pc 1826 then some (.iload 4, 2, 4, 0, 0, mj_u) else none) else
      (bif Nat.blt pc 1829 then (bif Nat.beq pc 1828 then some (.iconst 1, 1, 0, 0, 0, .int 1) else none) else
       (bif Nat.beq pc 1829 then some (.iadd, 1, 0, 0, 0, mj_u) else none)))) else
    (bif Nat.blt pc 1834 then (bif Nat.blt pc 1831 then (bif Nat.beq pc 1830 then some (.iaload, 1, 0, 0, 0, mj_u) else none) else
      (bif Nat.blt pc 1832 then (bif Nat.beq pc 1831 then some (.aload_n 0, 1, 0, 0, 0, mj_u) else none) else
       (bif Nat.beq pc 1832 then some (.iload 4, 2, 4, 0, 0, mj_u) else none))) else
     (bif Nat.blt pc 1835 then (bif Nat.beq pc 1834 then some (.iconst 2, 1, 0, 0, 0, .int 2) else none) else
      (bif Nat.blt pc 1836 then (bif Nat.beq pc 1835 then some (.iadd, 1, 0, 0, 0, mj_u) else none) else
       (bif Nat.beq pc 1836 then some (.iaload, 1, 0, 0, 0, mj_u) else none))))) else
   (bif Nat.blt pc 1845 then (bif Nat.blt pc 1841 then (bif Nat.blt pc 1838 then (bif Nat.beq pc 1837 then some (.aload_n 3, 1, 3, 0, 0, mj_u) else none) else
      (bif Nat.beq pc 1838 then some (.invokestatic 188, 3, 1002, 0, 872, mj_u) else none)) else
     (bif Nat.blt pc 1843 then (bif Nat.beq pc 1841 then some (.istore 5, 2, 5, 0, 0, mj_u) else none) else
      (bif Nat.blt pc 1844 then (bif Nat.beq pc 1843 then some (.aload_n 2, 1, 2, 0, 0, mj_u) else none) else
       (bif Nat.beq pc 1844 then some (.aload_n 0, 1, 0, 0, 0, mj_u) else none)))) else
    (bif Nat.blt pc 1849 then (bif Nat.blt pc 1847 then (bif Nat.beq pc 1845 then some (.iload 4, 2, 4, 0, 0, mj_u) else none) else
      (bif Nat.blt pc 1848 then (bif Nat.beq pc 1847 then some (.iconst 1, 1, 0, 0, 0, .int 1) else none) else
       (bif Nat.beq pc 1848 then some (.iadd, 1, 0, 0, 0, mj_u) else none))) else
     (bif Nat.blt pc 1850 then (bif Nat.beq pc 1849 then some (.iaload, 1, 0, 0, 0, mj_u) else none) else
      (bif Nat.blt pc 1851 then (bif Nat.beq pc 1850 then some (.aload_n 0, 1, 0, 0, 0, mj_u) else none) else
       (bif Nat.beq pc 1851 then some (.iload 4, 2, 4, 0, 0, mj_u) else none)))))) else
  (bif Nat.blt pc 1872 then (bif Nat.blt pc 1861 then (bif Nat.blt pc 1855 then (bif Nat.blt pc 1854 then (bif Nat.beq pc 1853 then some (.iconst 2, 1, 0, 0, 0, .int 2) else none) else
      (bif Nat.beq pc 1854 then some (.iadd, 1, 0, 0, 0, mj_u) else none)) else
     (bif Nat.blt pc 1856 then (bif Nat.beq pc 1855 then some (.iaload, 1, 0, 0, 0, mj_u) else none) else
      (bif Nat.blt pc 1859 then (bif Nat.beq pc 1856 then some (.invokevirtual 190, 3, 191, 0, 1360, mj_u) else none) else
       (bif Nat.beq pc 1859 then some (.istore 6, 2, 6, 0, 0, mj_u) else none)))) else
    (bif Nat.blt pc 1867 then (bif Nat.blt pc 1862 then (bif Nat.beq pc 1861 then some (.aload_n 2, 1, 2, 0, 0, mj_u) else none) else
      (bif Nat.blt pc 1865 then (bif Nat.beq pc 1862 then some (.invokevirtual 89, 3, 113, 0, 914, mj_u) else none) else
       (bif Nat.beq pc 1865 then some (.iload 5, 2, 5, 0, 0, mj_u) else none))) else
     (bif Nat.blt pc 1870 then (bif Nat.beq pc 1867 then some (.if_icmp .eq 5, 3, 1872, 0, 0, mj_u) else none) else
      (bif Nat.blt pc 1871 then (bif Nat.beq pc 1870 then some (.iconst 0, 1, 0, 0, 0, .int 0) else none) else
       (bif Nat.beq pc 1871 then some (.ireturn, 1, 0, 0, 0, mj_u) else none))))) else
   (bif Nat.blt pc 1882 then (bif Nat.blt pc 1878 then (bif Nat.blt pc 1874 then (bif Nat.beq pc 1872 then some (.iload 5, 2, 5, 0, 0, mj_u) else none) else
      (bif Nat.blt pc 1877 then (bif Nat.beq pc 1874 then some (.ifCond .ne 15, 3, 1889, 0, 0, mj_u) else none) else
       (bif Nat.beq pc 1877 then some (.aload_n 3, 1, 3, 0, 0, mj_u) else none))) else
     (bif Nat.blt pc 1879 then (bif Nat.beq pc 1878 then some (.iconst 0, 1, 0, 0, 0, .int 0) else none) else
      (bif Nat.blt pc 1880 then (bif Nat.beq pc 1879 then some (.laload, 1, 0, 0, 0, mj_u) else none) else
       (bif Nat.beq pc 1880 then some (.iload 6, 2, 6, 0, 0, mj_u) else none)))) else
    (bif Nat.blt pc 1887 then (bif Nat.blt pc 1883 then (bif Nat.beq pc 1882 then some (.i2l, 1, 0, 0, 0, mj_u) else none) else
      (bif Nat.blt pc 1884 then (bif Nat.beq pc 1883 then some (.lcmp, 1, 0, 0, 0, mj_u) else none) else
       (bif Nat.beq pc 1884 then some (.ifCond .eq 5, 3, 1889, 0, 0, mj_u) else none))) else
     (bif Nat.blt pc 1888 then (bif Nat.beq pc 1887 then some (.iconst 0, 1, 0, 0, 0, .int 0) else none) else
      (bif Nat.blt pc 1889 then (bif Nat.beq pc 1888 then some (.ireturn, 1, 0, 0, 0, mj_u) else none) else
       (bif Nat.beq pc 1889 then some (.goto 17, 3, 1906, 0, 0, mj_u) else none))))))
def k_law_1892 : Nat → Option mj_I := fun pc =>
  bif Nat.blt pc 1900 then (bif Nat.blt pc 1896 then (bif Nat.blt pc 1893 then (bif Nat.beq pc 1892 then some (.aload_n 1, 1, 1, 0, 0, mj_u) else none) else
    (bif Nat.beq pc 1893 then some (.invokevirtual 191, 3, 55, 0, 488, mj_u) else none)) else
   (bif Nat.blt pc 1897 then (bif Nat.beq pc 1896 then some (.aload_n 2, 1, 2, 0, 0, mj_u) else none) else
    (bif Nat.beq pc 1897 then some (.invokevirtual 195, 3, 192, 0, 1364, mj_u) else none))) else
  (bif Nat.blt pc 1904 then (bif Nat.blt pc 1901 then (bif Nat.beq pc 1900 then some (.lcmp, 1, 0, 0, 0, mj_u) else none) else
    (bif Nat.beq pc 1901 then some (.ifCond .eq 5, 3, 1906, 0, 0, mj_u) else none)) else
   (bif Nat.blt pc 1905 then (bif Nat.beq pc 1904 then some (.iconst 0, 1, 0, 0, 0, .int 0) else none) else
    (bif Nat.beq pc 1905 then some (.ireturn, 1, 0, 0, 0, mj_u) else none)))
def k_law_1906 : Nat → Option mj_I := fun pc =>
  bif Nat.blt pc 1912 then (bif Nat.blt pc 1909 then (bif Nat.beq pc 1906 then some (.iinc 4 6, 3, 4, 0, 0, .int 6) else none) else
   (bif Nat.beq pc 1909 then some (.goto (-1886), 3, 23, 0, 0, mj_u) else none)) else
  (bif Nat.blt pc 1913 then (bif Nat.beq pc 1912 then some (.iconst 1, 1, 0, 0, 0, .int 1) else none) else
   (bif Nat.beq pc 1913 then some (.ireturn, 1, 0, 0, 0, mj_u) else none))
def k_law : Nat → Option mj_I := fun pc =>
  bif Nat.blt pc 981 then (bif Nat.blt pc 669 then (bif Nat.blt pc 404 then (bif Nat.blt pc 244 then (bif Nat.blt pc 176 then (k_law_0 pc) else (k_law_176 pc)) else (bif Nat.blt pc 324 then (k_law_244 pc) else (k_law_324 pc))) else (bif Nat.blt pc 600 then (bif Nat.blt pc 496 then (k_law_404 pc) else (k_law_496 pc)) else (bif Nat.blt pc 613 then (k_law_600 pc) else (k_law_613 pc)))) else (bif Nat.blt pc 862 then (bif Nat.blt pc 738 then (bif Nat.blt pc 682 then (k_law_669 pc) else (k_law_682 pc)) else (bif Nat.blt pc 794 then (k_law_738 pc) else (k_law_794 pc))) else (bif Nat.blt pc 955 then (bif Nat.blt pc 942 then (k_law_862 pc) else (k_law_942 pc)) else (bif Nat.blt pc 968 then (k_law_955 pc) else (k_law_968 pc))))) else (bif Nat.blt pc 1427 then (bif Nat.blt pc 1155 then (bif Nat.blt pc 1062 then (bif Nat.blt pc 994 then (k_law_981 pc) else (k_law_994 pc)) else (bif Nat.blt pc 1075 then (k_law_1062 pc) else (k_law_1075 pc))) else (bif Nat.blt pc 1236 then (bif Nat.blt pc 1168 then (k_law_1155 pc) else (k_law_1168 pc)) else (bif Nat.blt pc 1347 then (k_law_1236 pc) else (k_law_1347 pc)))) else (bif Nat.blt pc 1744 then (bif Nat.blt pc 1623 then (bif Nat.blt pc 1519 then (k_law_1427 pc) else (k_law_1519 pc)) else (bif Nat.blt pc 1664 then (k_law_1623 pc) else (k_law_1664 pc))) else (bif Nat.blt pc 1892 then (bif Nat.blt pc 1824 then (k_law_1744 pc) else (k_law_1824 pc)) else (bif Nat.blt pc 1906 then (k_law_1892 pc) else (k_law_1906 pc)))))
def m_law : mj_M := (10000, code, 9, (some .boolean), 14, 1, 0, 0, 0, 0, 1914, k_law)
def mj_okP (M : mj_M) (a n : Nat) : Bool := (List.range n).all (fun j => match mj_cd M (a + j) with
  | none => true
  | some i => mj_okI (mM_own M) (mj_ini M) (mM_cc M) (a + j) i && mj_fitL (mM_nl M) i && mj_kat M (a + j) i)
theorem mj_okB_cut {M : mj_M} (l : List (Nat × Nat)) (h : ∀ q ∈ l, mj_okP M q.1 q.2 = true) (hc : (List.range (mM_len M)).all (fun pc => l.any (fun q => Nat.ble q.1 pc && Nat.blt pc (q.1 + q.2))) = true) : mj_okB M = true := by
  have key : ∀ pc, pc < mM_len M → ∀ i, mj_cd M pc = some i → mj_okI (mM_own M) (mj_ini M) (mM_cc M) pc i = true ∧ mj_fitL (mM_nl M) i = true ∧ mj_kat M pc i = true := by
    intro pc hpc i hi
    obtain ⟨q, hq, hq2⟩ := List.any_eq_true.mp (List.all_eq_true.mp hc pc (List.mem_range.mpr hpc))
    simp only [Bool.and_eq_true] at hq2
    have h1 := Nat.le_of_ble_eq_true hq2.1
    have h2 := Nat.blt_eq.mp hq2.2
    have h3 := List.all_eq_true.mp (h q hq) (pc - q.1) (List.mem_range.mpr (by omega))
    rw [show q.1 + (pc - q.1) = pc by omega, hi] at h3
    simp only [Bool.and_eq_true] at h3
    exact ⟨h3.1.1, h3.1.2, h3.2⟩
  simp only [mj_okB, Bool.and_eq_true]
  refine ⟨⟨List.all_eq_true.mpr fun pc hpc => ?_, List.all_eq_true.mpr fun pc hpc => ?_⟩, List.all_eq_true.mpr fun pc hpc => ?_⟩
  · cases hi : mj_cd M pc with
    | none => rfl
    | some i => exact (key pc (List.mem_range.mp hpc) i hi).1
  · cases hi : mj_cd M pc with
    | none => rfl
    | some i => exact (key pc (List.mem_range.mp hpc) i hi).2.1
  · cases hi : mj_cd M pc with
    | none => rfl
    | some i => exact (key pc (List.mem_range.mp hpc) i hi).2.2
theorem ok_law_0 : mj_okP m_law 0 60 = true := by decide +kernel
theorem ok_law_60 : mj_okP m_law 60 60 = true := by decide +kernel
theorem ok_law_120 : mj_okP m_law 120 56 = true := by decide +kernel
theorem ok_law_176 : mj_okP m_law 176 60 = true := by decide +kernel
theorem ok_law_236 : mj_okP m_law 236 8 = true := by decide +kernel
theorem ok_law_244 : mj_okP m_law 244 60 = true := by decide +kernel
theorem ok_law_304 : mj_okP m_law 304 20 = true := by decide +kernel
theorem ok_law_324 : mj_okP m_law 324 60 = true := by decide +kernel
theorem ok_law_384 : mj_okP m_law 384 20 = true := by decide +kernel
theorem ok_law_404 : mj_okP m_law 404 60 = true := by decide +kernel
theorem ok_law_464 : mj_okP m_law 464 32 = true := by decide +kernel
theorem ok_law_496 : mj_okP m_law 496 60 = true := by decide +kernel
theorem ok_law_556 : mj_okP m_law 556 44 = true := by decide +kernel
theorem ok_law_600 : mj_okP m_law 600 13 = true := by decide +kernel
theorem ok_law_613 : mj_okP m_law 613 56 = true := by decide +kernel
theorem ok_law_669 : mj_okP m_law 669 13 = true := by decide +kernel
theorem ok_law_682 : mj_okP m_law 682 56 = true := by decide +kernel
theorem ok_law_738 : mj_okP m_law 738 56 = true := by decide +kernel
theorem ok_law_794 : mj_okP m_law 794 60 = true := by decide +kernel
theorem ok_law_854 : mj_okP m_law 854 8 = true := by decide +kernel
theorem ok_law_862 : mj_okP m_law 862 60 = true := by decide +kernel
theorem ok_law_922 : mj_okP m_law 922 20 = true := by decide +kernel
theorem ok_law_942 : mj_okP m_law 942 13 = true := by decide +kernel
theorem ok_law_955 : mj_okP m_law 955 13 = true := by decide +kernel
theorem ok_law_968 : mj_okP m_law 968 13 = true := by decide +kernel
theorem ok_law_981 : mj_okP m_law 981 13 = true := by decide +kernel
theorem ok_law_994 : mj_okP m_law 994 60 = true := by decide +kernel
theorem ok_law_1054 : mj_okP m_law 1054 8 = true := by decide +kernel
theorem ok_law_1062 : mj_okP m_law 1062 13 = true := by decide +kernel
theorem ok_law_1075 : mj_okP m_law 1075 60 = true := by decide +kernel
theorem ok_law_1135 : mj_okP m_law 1135 20 = true := by decide +kernel
theorem ok_law_1155 : mj_okP m_law 1155 13 = true := by decide +kernel
theorem ok_law_1168 : mj_okP m_law 1168 60 = true := by decide +kernel
theorem ok_law_1228 : mj_okP m_law 1228 8 = true := by decide +kernel
theorem ok_law_1236 : mj_okP m_law 1236 60 = true := by decide +kernel
theorem ok_law_1296 : mj_okP m_law 1296 51 = true := by decide +kernel
theorem ok_law_1347 : mj_okP m_law 1347 60 = true := by decide +kernel
theorem ok_law_1407 : mj_okP m_law 1407 20 = true := by decide +kernel
theorem ok_law_1427 : mj_okP m_law 1427 60 = true := by decide +kernel
theorem ok_law_1487 : mj_okP m_law 1487 32 = true := by decide +kernel
theorem ok_law_1519 : mj_okP m_law 1519 60 = true := by decide +kernel
theorem ok_law_1579 : mj_okP m_law 1579 44 = true := by decide +kernel
theorem ok_law_1623 : mj_okP m_law 1623 41 = true := by decide +kernel
theorem ok_law_1664 : mj_okP m_law 1664 60 = true := by decide +kernel
theorem ok_law_1724 : mj_okP m_law 1724 20 = true := by decide +kernel
theorem ok_law_1744 : mj_okP m_law 1744 60 = true := by decide +kernel
theorem ok_law_1804 : mj_okP m_law 1804 20 = true := by decide +kernel
theorem ok_law_1824 : mj_okP m_law 1824 60 = true := by decide +kernel
theorem ok_law_1884 : mj_okP m_law 1884 8 = true := by decide +kernel
theorem ok_law_1892 : mj_okP m_law 1892 14 = true := by decide +kernel
theorem ok_law_1906 : mj_okP m_law 1906 8 = true := by decide +kernel
theorem ok_law : mj_okB m_law = true := mj_okB_cut [(0, 60), (60, 60), (120, 56), (176, 60), (236, 8), (244, 60), (304, 20), (324, 60), (384, 20), (404, 60), (464, 32), (496, 60), (556, 44), (600, 13), (613, 56), (669, 13), (682, 56), (738, 56), (794, 60), (854, 8), (862, 60), (922, 20), (942, 13), (955, 13), (968, 13), (981, 13), (994, 60), (1054, 8), (1062, 13), (1075, 60), (1135, 20), (1155, 13), (1168, 60), (1228, 8), (1236, 60), (1296, 51), (1347, 60), (1407, 20), (1427, 60), (1487, 32), (1519, 60), (1579, 44), (1623, 41), (1664, 60), (1724, 20), (1744, 60), (1804, 20), (1824, 60), (1884, 8), (1892, 14), (1906, 8)] (fun q hq => by
  simp only [List.mem_cons, List.not_mem_nil, or_false] at hq
  rcases hq with rfl | rfl | rfl | rfl | rfl | rfl | rfl | rfl | rfl | rfl | rfl | rfl | rfl | rfl | rfl | rfl | rfl | rfl | rfl | rfl | rfl | rfl | rfl | rfl | rfl | rfl | rfl | rfl | rfl | rfl | rfl | rfl | rfl | rfl | rfl | rfl | rfl | rfl | rfl | rfl | rfl | rfl | rfl | rfl | rfl | rfl | rfl | rfl | rfl | rfl | rfl
  · exact ok_law_0
  · exact ok_law_60
  · exact ok_law_120
  · exact ok_law_176
  · exact ok_law_236
  · exact ok_law_244
  · exact ok_law_304
  · exact ok_law_324
  · exact ok_law_384
  · exact ok_law_404
  · exact ok_law_464
  · exact ok_law_496
  · exact ok_law_556
  · exact ok_law_600
  · exact ok_law_613
  · exact ok_law_669
  · exact ok_law_682
  · exact ok_law_738
  · exact ok_law_794
  · exact ok_law_854
  · exact ok_law_862
  · exact ok_law_922
  · exact ok_law_942
  · exact ok_law_955
  · exact ok_law_968
  · exact ok_law_981
  · exact ok_law_994
  · exact ok_law_1054
  · exact ok_law_1062
  · exact ok_law_1075
  · exact ok_law_1135
  · exact ok_law_1155
  · exact ok_law_1168
  · exact ok_law_1228
  · exact ok_law_1236
  · exact ok_law_1296
  · exact ok_law_1347
  · exact ok_law_1407
  · exact ok_law_1427
  · exact ok_law_1487
  · exact ok_law_1519
  · exact ok_law_1579
  · exact ok_law_1623
  · exact ok_law_1664
  · exact ok_law_1724
  · exact ok_law_1744
  · exact ok_law_1804
  · exact ok_law_1824
  · exact ok_law_1884
  · exact ok_law_1892
  · exact ok_law_1906) (by decide +kernel)
