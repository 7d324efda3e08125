abbrev cX4_hasModule : ByteArray := prog_6_method_3_code
def yX4_hasModule : MethodName := ⟨RX4, "hasModule", "()Z"⟩
abbrev cX4_refuse : ByteArray := prog_6_method_4_code
def yX4_refuse : MethodName := ⟨RX4, "refuse", "(II)V"⟩
abbrev cX4_need : ByteArray := prog_6_method_5_code
def yX4_need : MethodName := ⟨RX4, "need", "(Z)V"⟩
abbrev cX11_program : ByteArray := prog_1_method_5_code
def yX11_program : MethodName := ⟨RX11, "program", "()I"⟩
abbrev cX11_run : ByteArray := prog_1_method_16_code
def yX11_run : MethodName := ⟨RX11, "run", "(IIIZ)I"⟩
def RL : String := "WardenHouseLaw"
abbrev cL_program : ByteArray := method_3_code
def yL_program : MethodName := ⟨RL, "program", "(LWardenHouse;[J)I"⟩
abbrev cL_run : ByteArray := method_4_code
def yL_run : MethodName := ⟨RL, "run", "(LWardenHouse;IIIZ[J)I"⟩
theorem dX4_hasModule_0 : decode cX4_hasModule 0 = .ok (.aload_n 0, 1) := by decide +kernel
theorem dX4_hasModule_1 : decode cX4_hasModule 1 = .ok (.getfield 9, 3) := by decide +kernel
theorem dX4_hasModule_4 : decode cX4_hasModule 4 = .ok (.getfield 67, 3) := by decide +kernel
theorem dX4_hasModule_7 : decode cX4_hasModule 7 = .ok (.sipush 211, 3) := by decide +kernel
theorem dX4_hasModule_10 : decode cX4_hasModule 10 = .ok (.if_icmp .ne 7, 3) := by decide +kernel
theorem dX4_hasModule_17 : decode cX4_hasModule 17 = .ok (.iconst 0, 1) := by decide +kernel
theorem dX4_hasModule_18 : decode cX4_hasModule 18 = .ok (.istore_n 1, 1) := by decide +kernel
theorem dX4_hasModule_19 : decode cX4_hasModule 19 = .ok (.aload_n 0, 1) := by decide +kernel
theorem dX4_hasModule_20 : decode cX4_hasModule 20 = .ok (.iload_n 1, 1) := by decide +kernel
theorem dX4_hasModule_21 : decode cX4_hasModule 21 = .ok (.ifCond .ne 23, 3) := by decide +kernel
theorem dX4_hasModule_24 : decode cX4_hasModule 24 = .ok (.aload_n 0, 1) := by decide +kernel
theorem dX4_hasModule_25 : decode cX4_hasModule 25 = .ok (.getfield 9, 3) := by decide +kernel
theorem dX4_hasModule_28 : decode cX4_hasModule 28 = .ok (.getfield 67, 3) := by decide +kernel
theorem dX4_hasModule_31 : decode cX4_hasModule 31 = .ok (.ifCond .ne 17, 3) := by decide +kernel
theorem dX4_hasModule_34 : decode cX4_hasModule 34 = .ok (.aload_n 0, 1) := by decide +kernel
theorem dX4_hasModule_35 : decode cX4_hasModule 35 = .ok (.getfield 15, 3) := by decide +kernel
theorem dX4_hasModule_38 : decode cX4_hasModule 38 = .ok (.getfield 79, 3) := by decide +kernel
theorem dX4_hasModule_41 : decode cX4_hasModule 41 = .ok (.ifCond .le 7, 3) := by decide +kernel
theorem dX4_hasModule_48 : decode cX4_hasModule 48 = .ok (.iconst 0, 1) := by decide +kernel
theorem dX4_hasModule_49 : decode cX4_hasModule 49 = .ok (.invokevirtual 82, 3) := by decide +kernel
theorem dX4_refuse_0 : decode cX4_refuse 0 = .ok (.aload_n 0, 1) := by decide +kernel
theorem dX4_refuse_1 : decode cX4_refuse 1 = .ok (.iload_n 1, 1) := by decide +kernel
theorem dX4_refuse_2 : decode cX4_refuse 2 = .ok (.putfield 64, 3) := by decide +kernel
theorem dX4_refuse_5 : decode cX4_refuse 5 = .ok (.aload_n 0, 1) := by decide +kernel
theorem dX4_refuse_6 : decode cX4_refuse 6 = .ok (.iload_n 2, 1) := by decide +kernel
theorem dX4_refuse_7 : decode cX4_refuse 7 = .ok (.putfield 51, 3) := by decide +kernel
theorem dX4_refuse_10 : decode cX4_refuse 10 = .ok (.new 85, 3) := by decide +kernel
theorem dX4_refuse_13 : decode cX4_refuse 13 = .ok (.dup, 1) := by decide +kernel
theorem dX4_refuse_14 : decode cX4_refuse 14 = .ok (.ldc 87, 2) := by decide +kernel
theorem dX4_refuse_16 : decode cX4_refuse 16 = .ok (.invokespecial 89, 3) := by decide +kernel
theorem dX4_refuse_19 : decode cX4_refuse 19 = .ok (.athrow, 1) := by decide +kernel
theorem dX4_need_0 : decode cX4_need 0 = .ok (.iload_n 1, 1) := by decide +kernel
theorem dX4_need_1 : decode cX4_need 1 = .ok (.ifCond .ne 15, 3) := by decide +kernel
theorem dX4_need_4 : decode cX4_need 4 = .ok (.aload_n 0, 1) := by decide +kernel
theorem dX4_need_5 : decode cX4_need 5 = .ok (.iconst 1, 1) := by decide +kernel
theorem dX4_need_6 : decode cX4_need 6 = .ok (.aload_n 0, 1) := by decide +kernel
theorem dX4_need_7 : decode cX4_need 7 = .ok (.getfield 9, 3) := by decide +kernel
theorem dX4_need_10 : decode cX4_need 10 = .ok (.getfield 92, 3) := by decide +kernel
theorem dX4_need_13 : decode cX4_need 13 = .ok (.invokevirtual 95, 3) := by decide +kernel
theorem dX11_program_0 : decode cX11_program 0 = .ok (.aload_n 0, 1) := by decide +kernel
theorem dX11_program_1 : decode cX11_program 1 = .ok (.getfield 73, 3) := by decide +kernel
theorem dX11_program_4 : decode cX11_program 4 = .ok (.istore_n 1, 1) := by decide +kernel
theorem dX11_program_5 : decode cX11_program 5 = .ok (.aload_n 0, 1) := by decide +kernel
theorem dX11_program_6 : decode cX11_program 6 = .ok (.iconst 0, 1) := by decide +kernel
theorem dX11_program_7 : decode cX11_program 7 = .ok (.putfield 73, 3) := by decide +kernel
theorem dX11_program_10 : decode cX11_program 10 = .ok (.aload_n 0, 1) := by decide +kernel
theorem dX11_program_11 : decode cX11_program 11 = .ok (.iconst 0, 1) := by decide +kernel
theorem dX11_program_12 : decode cX11_program 12 = .ok (.putfield 81, 3) := by decide +kernel
theorem dX11_program_15 : decode cX11_program 15 = .ok (.aload_n 0, 1) := by decide +kernel
theorem dX11_program_16 : decode cX11_program 16 = .ok (.getfield 59, 3) := by decide +kernel
theorem dX11_program_19 : decode cX11_program 19 = .ok (.invokevirtual 85, 3) := by decide +kernel
theorem dX11_program_22 : decode cX11_program 22 = .ok (.aload_n 0, 1) := by decide +kernel
theorem dX11_program_23 : decode cX11_program 23 = .ok (.getfield 50, 3) := by decide +kernel
theorem dX11_program_26 : decode cX11_program 26 = .ok (.invokevirtual 88, 3) := by decide +kernel
theorem dX11_program_29 : decode cX11_program 29 = .ok (.aload_n 0, 1) := by decide +kernel
theorem dX11_program_30 : decode cX11_program 30 = .ok (.getfield 16, 3) := by decide +kernel
theorem dX11_program_33 : decode cX11_program 33 = .ok (.aload_n 0, 1) := by decide +kernel
theorem dX11_program_34 : decode cX11_program 34 = .ok (.getfield 9, 3) := by decide +kernel
theorem dX11_program_37 : decode cX11_program 37 = .ok (.iload_n 1, 1) := by decide +kernel
theorem dX11_program_38 : decode cX11_program 38 = .ok (.iconst 4, 1) := by decide +kernel
theorem dX11_program_39 : decode cX11_program 39 = .ok (.invokevirtual 89, 3) := by decide +kernel
theorem dX11_program_42 : decode cX11_program 42 = .ok (.aload_n 0, 1) := by decide +kernel
theorem dX11_program_43 : decode cX11_program 43 = .ok (.getfield 41, 3) := by decide +kernel
theorem dX11_program_46 : decode cX11_program 46 = .ok (.invokevirtual 93, 3) := by decide +kernel
theorem dX11_program_49 : decode cX11_program 49 = .ok (.iconst 0, 1) := by decide +kernel
theorem dX11_program_50 : decode cX11_program 50 = .ok (.istore_n 2, 1) := by decide +kernel
theorem dX11_program_51 : decode cX11_program 51 = .ok (.iload_n 2, 1) := by decide +kernel
theorem dX11_program_52 : decode cX11_program 52 = .ok (.bipush 8, 2) := by decide +kernel
theorem dX11_program_54 : decode cX11_program 54 = .ok (.if_icmp .gt 26, 3) := by decide +kernel
theorem dX11_program_57 : decode cX11_program 57 = .ok (.aload_n 0, 1) := by decide +kernel
theorem dX11_program_58 : decode cX11_program 58 = .ok (.getfield 41, 3) := by decide +kernel
theorem dX11_program_61 : decode cX11_program 61 = .ok (.invokevirtual 96, 3) := by decide +kernel
theorem dX11_run_0 : decode cX11_run 0 = .ok (.aload_n 0, 1) := by decide +kernel
theorem dX11_run_1 : decode cX11_run 1 = .ok (.getfield 81, 3) := by decide +kernel
theorem dX11_run_4 : decode cX11_run 4 = .ok (.ifCond .ne 13, 3) := by decide +kernel
theorem dX11_run_7 : decode cX11_run 7 = .ok (.new 206, 3) := by decide +kernel
theorem dX11_run_10 : decode cX11_run 10 = .ok (.dup, 1) := by decide +kernel
theorem dX11_run_11 : decode cX11_run 11 = .ok (.ldc 208, 2) := by decide +kernel
theorem dX11_run_13 : decode cX11_run 13 = .ok (.invokespecial 210, 3) := by decide +kernel
theorem dX11_run_16 : decode cX11_run 16 = .ok (.athrow, 1) := by decide +kernel
theorem dL_program_0 : decode cL_program 0 = .ok (.aload_n 1, 1) := by decide +kernel
theorem dL_program_1 : decode cL_program 1 = .ok (.iconst 0, 1) := by decide +kernel
theorem dL_program_2 : decode cL_program 2 = .ok (.aload_n 0, 1) := by decide +kernel
theorem dL_program_3 : decode cL_program 3 = .ok (.invokevirtual 7, 3) := by decide +kernel
theorem dL_program_11 : decode cL_program 11 = .ok (.astore_n 2, 1) := by decide +kernel
theorem dL_program_12 : decode cL_program 12 = .ok (.iconst 1, 1) := by decide +kernel
theorem dL_program_13 : decode cL_program 13 = .ok (.ireturn, 1) := by decide +kernel
theorem dL_run_0 : decode cL_run 0 = .ok (.aload 5, 2) := by decide +kernel
theorem dL_run_2 : decode cL_run 2 = .ok (.iconst 0, 1) := by decide +kernel
theorem dL_run_3 : decode cL_run 3 = .ok (.aload_n 0, 1) := by decide +kernel
theorem dL_run_4 : decode cL_run 4 = .ok (.iload_n 1, 1) := by decide +kernel
theorem dL_run_5 : decode cL_run 5 = .ok (.iload_n 2, 1) := by decide +kernel
theorem dL_run_6 : decode cL_run 6 = .ok (.iload_n 3, 1) := by decide +kernel
theorem dL_run_7 : decode cL_run 7 = .ok (.iload 4, 2) := by decide +kernel
theorem dL_run_9 : decode cL_run 9 = .ok (.invokevirtual 15, 3) := by decide +kernel
theorem dL_run_17 : decode cL_run 17 = .ok (.astore 6, 2) := by decide +kernel
theorem dL_run_19 : decode cL_run 19 = .ok (.iconst 1, 1) := by decide +kernel
theorem dL_run_20 : decode cL_run 20 = .ok (.ireturn, 1) := by decide +kernel
