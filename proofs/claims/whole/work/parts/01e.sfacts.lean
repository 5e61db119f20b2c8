theorem gs_def : Jvm.Cond.fieldLink "LabourExchange$Law" (84 : Nat) "LabourExchange$Law" "DEFAULTS" "[I" ∈ TB := (tb_c4 50 (by decide +kernel) (by decide +kernel))
theorem sl_value : Jvm.Cond.fieldLink "java/lang/String" (9 : Nat) "java/lang/String" "value" "[B" ∈ TB := (tb_c11 177 (by decide +kernel) (by decide +kernel))
theorem sl_coder : Jvm.Cond.fieldLink "java/lang/String" (15 : Nat) "java/lang/String" "coder" "B" ∈ TB := (tb_c11 178 (by decide +kernel) (by decide +kernel))
theorem sl_comp : Jvm.Cond.fieldLink "java/lang/String" (38 : Nat) "java/lang/String" "COMPACT_STRINGS" "Z" ∈ TB := (tb_c6 3 (by decide +kernel) (by decide +kernel))
theorem sl_fmt : Jvm.Cond.fieldLink "java/lang/String" (1053 : Nat) "jdk/internal/util/Preconditions" "SIOOBE_FORMATTER" "Ljava/util/function/BiFunction;" ∈ TB := (tb_c6 19 (by decide +kernel) (by decide +kernel))
theorem sm_coder : Jvm.Cond.methodLink "java/lang/String" (335 : Nat) ({ cls := "java/lang/String", name := "coder", desc := "()B" } : Jvm.MethodName) ∈ TB := (tb_c5 239 (by decide +kernel) (by decide +kernel))
theorem sm_lat : Jvm.Cond.methodLink "java/lang/String" (492 : Nat) ({ cls := "java/lang/String", name := "isLatin1", desc := "()Z" } : Jvm.MethodName) ∈ TB := (tb_c6 9 (by decide +kernel) (by decide +kernel))
theorem sm_l1 : Jvm.Cond.methodLink "java/lang/String" (495 : Nat) ({ cls := "java/lang/StringLatin1", name := "charAt", desc := "([BI)C" } : Jvm.MethodName) ∈ TB := (tb_c6 13 (by decide +kernel) (by decide +kernel))
theorem sm_ci : Jvm.Cond.methodLink "java/lang/StringLatin1" (9 : Nat) ({ cls := "java/lang/String", name := "checkIndex", desc := "(II)V" } : Jvm.MethodName) ∈ TB := (tb_c6 16 (by decide +kernel) (by decide +kernel))
theorem sm_pci : Jvm.Cond.methodLink "java/lang/String" (1059 : Nat) ({ cls := "jdk/internal/util/Preconditions", name := "checkIndex", desc := "(IILjava/util/function/BiFunction;)I" } : Jvm.MethodName) ∈ TB := (tb_c6 21 (by decide +kernel) (by decide +kernel))
theorem ac_nat : Jvm.Cond.native ({ cls := "java/lang/System", name := "arraycopy", desc := "(Ljava/lang/Object;ILjava/lang/Object;II)V" } : Jvm.MethodName) ∈ TB := (tb_c4 54 (by decide +kernel) (by decide +kernel))
theorem ac_st : Jvm.Cond.static ({ cls := "java/lang/System", name := "arraycopy", desc := "(Ljava/lang/Object;ILjava/lang/Object;II)V" } : Jvm.MethodName) ∈ TB := (tb_c4 53 (by decide +kernel) (by decide +kernel))
theorem ac_in : Jvm.Cond.initialized "java/lang/System" ∈ TB := (tb_c1 25 (by decide +kernel) (by decide +kernel))
theorem ac_Law : Jvm.Cond.methodLink "LabourExchange$Law" (87 : Nat) ({ cls := "java/lang/System", name := "arraycopy", desc := "(Ljava/lang/Object;ILjava/lang/Object;II)V" } : Jvm.MethodName) ∈ TB := (tb_c4 52 (by decide +kernel) (by decide +kernel))
theorem ac_Courts : Jvm.Cond.methodLink "LabourExchange$Courts" (54 : Nat) ({ cls := "java/lang/System", name := "arraycopy", desc := "(Ljava/lang/Object;ILjava/lang/Object;II)V" } : Jvm.MethodName) ∈ TB := (tb_c7 112 (by decide +kernel) (by decide +kernel))
def tb_S_length : List (Nat × Instr × Nat) := [(0, .aload_n 0, 1), (1, .getfield 9, 3), (4, .arraylength, 1), (5, .aload_n 0, 1), (6, .invokevirtual 335, 3), (9, .ishr, 1), (10, .ireturn, 1)]
theorem tk_S_length : tb_S_length.all (dqb prog_22_method_54_code) = true := by decide +kernel
def y_S_length : MethodName := ⟨"java/lang/String", "length", "()I"⟩
theorem yv_S_length : Yv y_S_length prog_22_method_54_code 1 (some .int) 0 := ⟨⟨(tb_c5 236 (by decide +kernel) (by decide +kernel)), (tb_c5 237 (by decide +kernel) (by decide +kernel)), (tb_c1 21 (by decide +kernel) (by decide +kernel)), (tb_c5 238 (by decide +kernel) (by decide +kernel))⟩, by decide, by decide, by decide +kernel⟩
def tb_S_coder : List (Nat × Instr × Nat) := [(0, .getstatic 38, 3), (3, .ifCond .eq 10, 3), (6, .aload_n 0, 1), (7, .getfield 15, 3), (10, .goto 4, 3), (13, .iconst 1, 1), (14, .ireturn, 1)]
theorem tk_S_coder : tb_S_coder.all (dqb prog_22_method_152_code) = true := by decide +kernel
def y_S_coder : MethodName := ⟨"java/lang/String", "coder", "()B"⟩
theorem yv_S_coder : Yv y_S_coder prog_22_method_152_code 1 (some .byte) 0 := ⟨⟨(tb_c6 0 (by decide +kernel) (by decide +kernel)), (tb_c6 1 (by decide +kernel) (by decide +kernel)), (tb_c1 21 (by decide +kernel) (by decide +kernel)), (tb_c6 2 (by decide +kernel) (by decide +kernel))⟩, by decide, by decide, by decide +kernel⟩
def tb_S_charAt : List (Nat × Instr × Nat) := [(0, .aload_n 0, 1), (1, .invokevirtual 492, 3), (4, .ifCond .eq 12, 3), (7, .aload_n 0, 1), (8, .getfield 9, 3), (11, .iload_n 1, 1), (12, .invokestatic 495, 3), (15, .ireturn, 1), (16, .aload_n 0, 1), (17, .getfield 9, 3), (20, .iload_n 1, 1), (21, .invokestatic 498, 3), (24, .ireturn, 1)]
theorem tk_S_charAt : tb_S_charAt.all (dqb prog_22_method_56_code) = true := by decide +kernel
def y_S_charAt : MethodName := ⟨"java/lang/String", "charAt", "(I)C"⟩
theorem yv_S_charAt : Yv y_S_charAt prog_22_method_56_code 2 (some .char) 1 := ⟨⟨(tb_c6 6 (by decide +kernel) (by decide +kernel)), (tb_c6 7 (by decide +kernel) (by decide +kernel)), (tb_c1 21 (by decide +kernel) (by decide +kernel)), (tb_c6 8 (by decide +kernel) (by decide +kernel))⟩, by decide, by decide, by decide +kernel⟩
def tb_S_isLatin1 : List (Nat × Instr × Nat) := [(0, .getstatic 38, 3), (3, .ifCond .eq 14, 3), (6, .aload_n 0, 1), (7, .getfield 15, 3), (10, .ifCond .ne 7, 3), (13, .iconst 1, 1), (14, .goto 4, 3), (17, .iconst 0, 1), (18, .ireturn, 1)]
theorem tk_S_isLatin1 : tb_S_isLatin1.all (dqb prog_22_method_154_code) = true := by decide +kernel
def y_S_isLatin1 : MethodName := ⟨"java/lang/String", "isLatin1", "()Z"⟩
theorem yv_S_isLatin1 : Yv y_S_isLatin1 prog_22_method_154_code 1 (some .boolean) 0 := ⟨⟨(tb_c6 10 (by decide +kernel) (by decide +kernel)), (tb_c6 11 (by decide +kernel) (by decide +kernel)), (tb_c1 21 (by decide +kernel) (by decide +kernel)), (tb_c6 12 (by decide +kernel) (by decide +kernel))⟩, by decide, by decide, by decide +kernel⟩
def tb_S_checkIndex : List (Nat × Instr × Nat) := [(0, .iload_n 0, 1), (1, .iload_n 1, 1), (2, .getstatic 1053, 3), (5, .invokestatic 1059, 3), (8, .pop, 1), (9, .return_, 1)]
theorem tk_S_checkIndex : tb_S_checkIndex.all (dqb prog_22_method_155_code) = true := by decide +kernel
def y_S_checkIndex : MethodName := ⟨"java/lang/String", "checkIndex", "(II)V"⟩
theorem ys_S_checkIndex : Ys y_S_checkIndex prog_22_method_155_code 2 none 2 := ⟨⟨(tb_c6 17 (by decide +kernel) (by decide +kernel)), (tb_c1 21 (by decide +kernel) (by decide +kernel)), (tb_c6 18 (by decide +kernel) (by decide +kernel))⟩, by decide, by decide, by decide +kernel⟩
def tb_L1_charAt : List (Nat × Instr × Nat) := [(0, .iload_n 1, 1), (1, .aload_n 0, 1), (2, .arraylength, 1), (3, .invokestatic 9, 3), (6, .aload_n 0, 1), (7, .iload_n 1, 1), (8, .baload, 1), (9, .sipush 255, 3), (12, .iand, 1), (13, .i2c, 1), (14, .ireturn, 1)]
theorem tk_L1_charAt : tb_L1_charAt.all (dqb prog_23_method_2_code) = true := by decide +kernel
def y_L1_charAt : MethodName := ⟨"java/lang/StringLatin1", "charAt", "([BI)C"⟩
theorem ys_L1_charAt : Ys y_L1_charAt prog_23_method_2_code 2 (some .char) 2 := ⟨⟨(tb_c6 14 (by decide +kernel) (by decide +kernel)), (tb_c1 22 (by decide +kernel) (by decide +kernel)), (tb_c6 15 (by decide +kernel) (by decide +kernel))⟩, by decide, by decide, by decide +kernel⟩
def tb_P_checkIndex : List (Nat × Instr × Nat) := [(0, .iload_n 0, 1), (1, .ifCond .lt 8, 3), (4, .iload_n 0, 1), (5, .iload_n 1, 1), (6, .if_icmp .lt 10, 3), (9, .aload_n 2, 1), (10, .iload_n 0, 1), (11, .iload_n 1, 1), (12, .invokestatic 95, 3), (15, .athrow, 1), (16, .iload_n 0, 1), (17, .ireturn, 1)]
theorem tk_P_checkIndex : tb_P_checkIndex.all (dqb prog_31_method_11_code) = true := by decide +kernel
def y_P_checkIndex : MethodName := ⟨"jdk/internal/util/Preconditions", "checkIndex", "(IILjava/util/function/BiFunction;)I"⟩
theorem ys_P_checkIndex : Ys y_P_checkIndex prog_31_method_11_code 3 (some .int) 3 := ⟨⟨(tb_c6 22 (by decide +kernel) (by decide +kernel)), (tb_c1 23 (by decide +kernel) (by decide +kernel)), (tb_c6 23 (by decide +kernel) (by decide +kernel))⟩, by decide, by decide, by decide +kernel⟩
