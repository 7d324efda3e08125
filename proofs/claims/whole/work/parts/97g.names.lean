theorem dX11_program_87 : decode cX11_program 87 = .ok (.aload_n 0, 1) := by decide +kernel
theorem dX11_program_88 : decode cX11_program 88 = .ok (.getfield 50, 3) := by decide +kernel
theorem dX11_program_91 : decode cX11_program 91 = .ok (.invokevirtual 106, 3) := by decide +kernel
theorem dX11_program_94 : decode cX11_program 94 = .ok (.aload_n 0, 1) := by decide +kernel
theorem dX11_program_95 : decode cX11_program 95 = .ok (.getfield 32, 3) := by decide +kernel
theorem dX11_program_98 : decode cX11_program 98 = .ok (.invokevirtual 109, 3) := by decide +kernel
theorem dX11_program_101 : decode cX11_program 101 = .ok (.aload_n 0, 1) := by decide +kernel
theorem dX11_program_102 : decode cX11_program 102 = .ok (.iconst 1, 1) := by decide +kernel
theorem dX11_program_103 : decode cX11_program 103 = .ok (.putfield 81, 3) := by decide +kernel
theorem dX11_program_106 : decode cX11_program 106 = .ok (.aload_n 0, 1) := by decide +kernel
theorem dX11_program_107 : decode cX11_program 107 = .ok (.getfield 32, 3) := by decide +kernel
theorem dX11_program_110 : decode cX11_program 110 = .ok (.getfield 112, 3) := by decide +kernel
theorem dX11_program_113 : decode cX11_program 113 = .ok (.ireturn, 1) := by decide +kernel
theorem dX11_asks_0 : decode cX11_asks 0 = .ok (.aload_n 0, 1) := by decide +kernel
theorem dX11_asks_1 : decode cX11_asks 1 = .ok (.getfield 73, 3) := by decide +kernel
theorem dX11_asks_4 : decode cX11_asks 4 = .ok (.istore_n 1, 1) := by decide +kernel
theorem dX11_asks_5 : decode cX11_asks 5 = .ok (.aload_n 0, 1) := by decide +kernel
theorem dX11_asks_6 : decode cX11_asks 6 = .ok (.iconst 0, 1) := by decide +kernel
theorem dX11_asks_7 : decode cX11_asks 7 = .ok (.putfield 73, 3) := by decide +kernel
theorem dX11_asks_10 : decode cX11_asks 10 = .ok (.aload_n 0, 1) := by decide +kernel
theorem dX11_asks_11 : decode cX11_asks 11 = .ok (.getfield 16, 3) := by decide +kernel
theorem dX11_asks_14 : decode cX11_asks 14 = .ok (.aload_n 0, 1) := by decide +kernel
theorem dX11_asks_15 : decode cX11_asks 15 = .ok (.getfield 9, 3) := by decide +kernel
theorem dX11_asks_18 : decode cX11_asks 18 = .ok (.iload_n 1, 1) := by decide +kernel
theorem dX11_asks_19 : decode cX11_asks 19 = .ok (.iconst 5, 1) := by decide +kernel
theorem dX11_asks_20 : decode cX11_asks 20 = .ok (.invokevirtual 89, 3) := by decide +kernel
theorem dX11_asks_23 : decode cX11_asks 23 = .ok (.aload_n 0, 1) := by decide +kernel
theorem dX11_asks_24 : decode cX11_asks 24 = .ok (.getfield 16, 3) := by decide +kernel
theorem dX11_asks_27 : decode cX11_asks 27 = .ok (.getfield 162, 3) := by decide +kernel
theorem dX11_asks_30 : decode cX11_asks 30 = .ok (.iconst 2, 1) := by decide +kernel
theorem dX11_asks_31 : decode cX11_asks 31 = .ok (.if_icmp .eq 5, 3) := by decide +kernel
theorem dX11_asks_34 : decode cX11_asks 34 = .ok (.iconst 0, 1) := by decide +kernel
theorem dX11_asks_35 : decode cX11_asks 35 = .ok (.ireturn, 1) := by decide +kernel
theorem dX11_asks_36 : decode cX11_asks 36 = .ok (.aload_n 0, 1) := by decide +kernel
theorem dX11_asks_37 : decode cX11_asks 37 = .ok (.getfield 16, 3) := by decide +kernel
theorem dX11_asks_40 : decode cX11_asks 40 = .ok (.getfield 165, 3) := by decide +kernel
theorem dX11_asks_43 : decode cX11_asks 43 = .ok (.lstore_n 2, 1) := by decide +kernel
theorem dX11_asks_44 : decode cX11_asks 44 = .ok (.aload_n 0, 1) := by decide +kernel
theorem dX11_asks_45 : decode cX11_asks 45 = .ok (.getfield 16, 3) := by decide +kernel
theorem dX11_asks_48 : decode cX11_asks 48 = .ok (.invokevirtual 169, 3) := by decide +kernel
theorem dX11_asks_51 : decode cX11_asks 51 = .ok (.aload_n 0, 1) := by decide +kernel
theorem dX11_asks_52 : decode cX11_asks 52 = .ok (.getfield 16, 3) := by decide +kernel
theorem dX11_asks_55 : decode cX11_asks 55 = .ok (.getfield 162, 3) := by decide +kernel
theorem dX11_asks_58 : decode cX11_asks 58 = .ok (.iconst 4, 1) := by decide +kernel
theorem dX11_asks_59 : decode cX11_asks 59 = .ok (.if_icmp .ne 13, 3) := by decide +kernel
theorem dX11_asks_62 : decode cX11_asks 62 = .ok (.aload_n 0, 1) := by decide +kernel
theorem dX11_asks_63 : decode cX11_asks 63 = .ok (.getfield 16, 3) := by decide +kernel
theorem dX11_asks_66 : decode cX11_asks 66 = .ok (.invokevirtual 172, 3) := by decide +kernel
theorem dX11_asks_69 : decode cX11_asks 69 = .ok (.ifCond .eq 5, 3) := by decide +kernel
theorem dX11_asks_72 : decode cX11_asks 72 = .ok (.iconst 0, 1) := by decide +kernel
theorem dX11_asks_73 : decode cX11_asks 73 = .ok (.ireturn, 1) := by decide +kernel
theorem dX11_asks_74 : decode cX11_asks 74 = .ok (.aload_n 0, 1) := by decide +kernel
theorem dX11_asks_75 : decode cX11_asks 75 = .ok (.getfield 16, 3) := by decide +kernel
theorem dX11_asks_78 : decode cX11_asks 78 = .ok (.aload_n 0, 1) := by decide +kernel
theorem dX11_asks_79 : decode cX11_asks 79 = .ok (.getfield 66, 3) := by decide +kernel
theorem dX11_asks_82 : decode cX11_asks 82 = .ok (.invokevirtual 175, 3) := by decide +kernel
theorem dX11_asks_85 : decode cX11_asks 85 = .ok (.aload_n 0, 1) := by decide +kernel
theorem dX11_asks_86 : decode cX11_asks 86 = .ok (.getfield 16, 3) := by decide +kernel
theorem dX11_asks_89 : decode cX11_asks 89 = .ok (.invokevirtual 169, 3) := by decide +kernel
theorem dX11_asks_92 : decode cX11_asks 92 = .ok (.aload_n 0, 1) := by decide +kernel
theorem dX11_asks_93 : decode cX11_asks 93 = .ok (.getfield 16, 3) := by decide +kernel
theorem dX11_asks_96 : decode cX11_asks 96 = .ok (.getfield 162, 3) := by decide +kernel
theorem dX11_asks_99 : decode cX11_asks 99 = .ok (.ifCond .eq 5, 3) := by decide +kernel
theorem dX11_asks_102 : decode cX11_asks 102 = .ok (.iconst 0, 1) := by decide +kernel
theorem dX11_asks_103 : decode cX11_asks 103 = .ok (.ireturn, 1) := by decide +kernel
theorem dX11_asks_104 : decode cX11_asks 104 = .ok (.aload_n 0, 1) := by decide +kernel
theorem dX11_asks_105 : decode cX11_asks 105 = .ok (.getfield 70, 3) := by decide +kernel
theorem dX11_asks_108 : decode cX11_asks 108 = .ok (.aload_n 0, 1) := by decide +kernel
theorem dX11_asks_109 : decode cX11_asks 109 = .ok (.getfield 66, 3) := by decide +kernel
theorem dX11_asks_112 : decode cX11_asks 112 = .ok (.invokevirtual 179, 3) := by decide +kernel
theorem dX11_asks_115 : decode cX11_asks 115 = .ok (.aload_n 0, 1) := by decide +kernel
theorem dX11_asks_116 : decode cX11_asks 116 = .ok (.getfield 70, 3) := by decide +kernel
theorem dX11_asks_119 : decode cX11_asks 119 = .ok (.lload_n 2, 1) := by decide +kernel
theorem dX11_asks_120 : decode cX11_asks 120 = .ok (.putfield 182, 3) := by decide +kernel
theorem dX11_asks_123 : decode cX11_asks 123 = .ok (.aload_n 0, 1) := by decide +kernel
theorem dX11_asks_124 : decode cX11_asks 124 = .ok (.iconst 1, 1) := by decide +kernel
theorem dX11_asks_125 : decode cX11_asks 125 = .ok (.putfield 184, 3) := by decide +kernel
theorem dX11_asks_128 : decode cX11_asks 128 = .ok (.aload_n 0, 1) := by decide +kernel
theorem dX11_asks_129 : decode cX11_asks 129 = .ok (.getfield 50, 3) := by decide +kernel
theorem dX11_asks_132 : decode cX11_asks 132 = .ok (.invokevirtual 88, 3) := by decide +kernel
theorem dX11_asks_135 : decode cX11_asks 135 = .ok (.iconst 1, 1) := by decide +kernel
theorem dX11_asks_136 : decode cX11_asks 136 = .ok (.ireturn, 1) := by decide +kernel
theorem dX11_run_0 : decode cX11_run 0 = .ok (.aload_n 0, 1) := by decide +kernel
theorem dX11_run_1 : decode cX11_run 1 = .ok (.getfield 81, 3) := by decide +kernel
theorem dX11_run_4 : decode cX11_run 4 = .ok (.ifCond .ne 13, 3) := by decide +kernel
theorem dX11_run_7 : decode cX11_run 7 = .ok (.new 206, 3) := by decide +kernel
theorem dX11_run_10 : decode cX11_run 10 = .ok (.dup, 1) := by decide +kernel
theorem dX11_run_11 : decode cX11_run 11 = .ok (.ldc 208, 2) := by decide +kernel
theorem dX11_run_13 : decode cX11_run 13 = .ok (.invokespecial 210, 3) := by decide +kernel
theorem dX11_run_16 : decode cX11_run 16 = .ok (.athrow, 1) := by decide +kernel
theorem dX11_run_17 : decode cX11_run 17 = .ok (.aload_n 0, 1) := by decide +kernel
theorem dX11_run_18 : decode cX11_run 18 = .ok (.iload_n 1, 1) := by decide +kernel
theorem dX11_run_19 : decode cX11_run 19 = .ok (.invokevirtual 125, 3) := by decide +kernel
theorem dX11_run_22 : decode cX11_run 22 = .ok (.ifCond .eq 15, 3) := by decide +kernel
theorem dX11_run_25 : decode cX11_run 25 = .ok (.iload_n 3, 1) := by decide +kernel
theorem dX11_run_26 : decode cX11_run 26 = .ok (.iconst 1, 1) := by decide +kernel
theorem dX11_run_27 : decode cX11_run 27 = .ok (.if_icmp .lt 10, 3) := by decide +kernel
theorem dX11_run_30 : decode cX11_run 30 = .ok (.iload_n 3, 1) := by decide +kernel
theorem dX11_run_31 : decode cX11_run 31 = .ok (.sipush 4000, 3) := by decide +kernel
theorem dX11_run_34 : decode cX11_run 34 = .ok (.if_icmp .le 13, 3) := by decide +kernel
theorem dX11_run_37 : decode cX11_run 37 = .ok (.new 213, 3) := by decide +kernel
theorem dX11_run_40 : decode cX11_run 40 = .ok (.dup, 1) := by decide +kernel
theorem dX11_run_41 : decode cX11_run 41 = .ok (.ldc 215, 2) := by decide +kernel
theorem dX11_run_43 : decode cX11_run 43 = .ok (.invokespecial 217, 3) := by decide +kernel
theorem dX11_run_46 : decode cX11_run 46 = .ok (.athrow, 1) := by decide +kernel
theorem dX11_run_47 : decode cX11_run 47 = .ok (.aload_n 0, 1) := by decide +kernel
theorem dX11_run_48 : decode cX11_run 48 = .ok (.getfield 32, 3) := by decide +kernel
theorem dX11_run_51 : decode cX11_run 51 = .ok (.iload_n 1, 1) := by decide +kernel
theorem dX11_run_52 : decode cX11_run 52 = .ok (.invokevirtual 129, 3) := by decide +kernel
theorem dX11_run_55 : decode cX11_run 55 = .ok (.astore 5, 2) := by decide +kernel
theorem dX11_run_57 : decode cX11_run 57 = .ok (.aload 5, 2) := by decide +kernel
theorem dX11_run_59 : decode cX11_run 59 = .ok (.getfield 218, 3) := by decide +kernel
theorem dX11_run_62 : decode cX11_run 62 = .ok (.ifCond .ne 11, 3) := by decide +kernel
theorem dX11_run_65 : decode cX11_run 65 = .ok (.aload 5, 2) := by decide +kernel
theorem dX11_run_67 : decode cX11_run 67 = .ok (.getfield 221, 3) := by decide +kernel
theorem dX11_run_70 : decode cX11_run 70 = .ok (.ifCond .eq 13, 3) := by decide +kernel
theorem dX11_run_73 : decode cX11_run 73 = .ok (.new 213, 3) := by decide +kernel
theorem dX11_run_76 : decode cX11_run 76 = .ok (.dup, 1) := by decide +kernel
theorem dX11_run_77 : decode cX11_run 77 = .ok (.ldc 224, 2) := by decide +kernel
theorem dX11_run_79 : decode cX11_run 79 = .ok (.invokespecial 217, 3) := by decide +kernel
theorem dX11_run_82 : decode cX11_run 82 = .ok (.athrow, 1) := by decide +kernel
theorem dX11_run_83 : decode cX11_run 83 = .ok (.aload_n 0, 1) := by decide +kernel
theorem dX11_run_84 : decode cX11_run 84 = .ok (.getfield 59, 3) := by decide +kernel
theorem dX11_run_87 : decode cX11_run 87 = .ok (.aload 5, 2) := by decide +kernel
theorem dX11_run_89 : decode cX11_run 89 = .ok (.iload_n 2, 1) := by decide +kernel
theorem dX11_run_90 : decode cX11_run 90 = .ok (.iload_n 3, 1) := by decide +kernel
theorem dX11_run_91 : decode cX11_run 91 = .ok (.iload 4, 2) := by decide +kernel
theorem dX11_run_93 : decode cX11_run 93 = .ok (.invokevirtual 226, 3) := by decide +kernel
theorem dX11_run_96 : decode cX11_run 96 = .ok (.aload_n 0, 1) := by decide +kernel
theorem dX11_run_97 : decode cX11_run 97 = .ok (.getfield 59, 3) := by decide +kernel
theorem dX11_run_100 : decode cX11_run 100 = .ok (.invokevirtual 230, 3) := by decide +kernel
theorem dX11_run_103 : decode cX11_run 103 = .ok (.ireturn, 1) := by decide +kernel
theorem dJ7_fill_53178_0 : decode cJ7_fill_53178 0 = .ok (.iconst 0, 1) := by decide +kernel
theorem dJ7_fill_53178_1 : decode cJ7_fill_53178 1 = .ok (.istore_n 2, 1) := by decide +kernel
theorem dJ7_fill_53178_2 : decode cJ7_fill_53178 2 = .ok (.aload_n 0, 1) := by decide +kernel
theorem dJ7_fill_53178_3 : decode cJ7_fill_53178 3 = .ok (.arraylength, 1) := by decide +kernel
theorem dJ7_fill_53178_4 : decode cJ7_fill_53178 4 = .ok (.istore_n 3, 1) := by decide +kernel
theorem dJ7_fill_53178_5 : decode cJ7_fill_53178 5 = .ok (.iload_n 2, 1) := by decide +kernel
theorem dJ7_fill_53178_6 : decode cJ7_fill_53178 6 = .ok (.iload_n 3, 1) := by decide +kernel
theorem dJ7_fill_53178_7 : decode cJ7_fill_53178 7 = .ok (.if_icmp .ge 13, 3) := by decide +kernel
theorem dJ7_fill_53178_10 : decode cJ7_fill_53178 10 = .ok (.aload_n 0, 1) := by decide +kernel
theorem dJ7_fill_53178_11 : decode cJ7_fill_53178 11 = .ok (.iload_n 2, 1) := by decide +kernel
theorem dJ7_fill_53178_12 : decode cJ7_fill_53178 12 = .ok (.iload_n 1, 1) := by decide +kernel
theorem dJ7_fill_53178_13 : decode cJ7_fill_53178 13 = .ok (.iastore, 1) := by decide +kernel
theorem dJ7_fill_53178_14 : decode cJ7_fill_53178 14 = .ok (.iinc 2 1, 3) := by decide +kernel
theorem dJ7_fill_53178_17 : decode cJ7_fill_53178 17 = .ok (.goto (-12), 3) := by decide +kernel
theorem dJ7_fill_53178_20 : decode cJ7_fill_53178 20 = .ok (.return_, 1) := by decide +kernel
theorem dJ7_copyOf_c38d5_0 : decode cJ7_copyOf_c38d5 0 = .ok (.iload_n 1, 1) := by decide +kernel
theorem dJ7_copyOf_c38d5_1 : decode cJ7_copyOf_c38d5 1 = .ok (.aload_n 0, 1) := by decide +kernel
theorem dJ7_copyOf_c38d5_2 : decode cJ7_copyOf_c38d5 2 = .ok (.arraylength, 1) := by decide +kernel
theorem dJ7_copyOf_c38d5_3 : decode cJ7_copyOf_c38d5 3 = .ok (.if_icmp .ne 11, 3) := by decide +kernel
theorem dJ7_copyOf_c38d5_14 : decode cJ7_copyOf_c38d5 14 = .ok (.iload_n 1, 1) := by decide +kernel
theorem dJ7_copyOf_c38d5_15 : decode cJ7_copyOf_c38d5 15 = .ok (.newarray .long, 2) := by decide +kernel
theorem dJ7_copyOf_c38d5_17 : decode cJ7_copyOf_c38d5 17 = .ok (.astore_n 2, 1) := by decide +kernel
theorem dJ7_copyOf_c38d5_18 : decode cJ7_copyOf_c38d5 18 = .ok (.aload_n 0, 1) := by decide +kernel
theorem dJ7_copyOf_c38d5_19 : decode cJ7_copyOf_c38d5 19 = .ok (.iconst 0, 1) := by decide +kernel
theorem dJ7_copyOf_c38d5_20 : decode cJ7_copyOf_c38d5 20 = .ok (.aload_n 2, 1) := by decide +kernel
theorem dJ7_copyOf_c38d5_21 : decode cJ7_copyOf_c38d5 21 = .ok (.iconst 0, 1) := by decide +kernel
theorem dJ7_copyOf_c38d5_22 : decode cJ7_copyOf_c38d5 22 = .ok (.aload_n 0, 1) := by decide +kernel
theorem dJ7_copyOf_c38d5_23 : decode cJ7_copyOf_c38d5 23 = .ok (.arraylength, 1) := by decide +kernel
theorem dJ7_copyOf_c38d5_24 : decode cJ7_copyOf_c38d5 24 = .ok (.iload_n 1, 1) := by decide +kernel
theorem dJ7_copyOf_c38d5_25 : decode cJ7_copyOf_c38d5 25 = .ok (.invokestatic 304, 3) := by decide +kernel
theorem dJ7_copyOf_c38d5_28 : decode cJ7_copyOf_c38d5 28 = .ok (.invokestatic 150, 3) := by decide +kernel
theorem dJ7_copyOf_c38d5_31 : decode cJ7_copyOf_c38d5 31 = .ok (.aload_n 2, 1) := by decide +kernel
theorem dJ7_copyOf_c38d5_32 : decode cJ7_copyOf_c38d5 32 = .ok (.areturn, 1) := by decide +kernel
