theorem dX11_program_102 : decode cX11_program 102 = .ok (.iconst 1, 1) := by decide +kernel
theorem dX11_program_103 : decode cX11_program 103 = .ok (.putfield 81, 3) := by decide +kernel
theorem dX11_program_106 : decode cX11_program 106 = .ok (.aload_n 0, 1) := by decide +kernel
theorem dX11_program_107 : decode cX11_program 107 = .ok (.getfield 32, 3) := by decide +kernel
theorem dX11_program_110 : decode cX11_program 110 = .ok (.getfield 112, 3) := by decide +kernel
theorem dX11_program_113 : decode cX11_program 113 = .ok (.ireturn, 1) := by decide +kernel
theorem dX11_asks_0 : decode cX11_asks 0 = .ok (.aload_n 0, 1) := by decide +kernel
theorem dX11_asks_1 : decode cX11_asks 1 = .ok (.getfield 73, 3) := by decide +kernel
theorem dX11_asks_4 : decode cX11_asks 4 = .ok (.istore_n 1, 1) := by decide +kernel
theorem dX11_asks_5 : decode cX11_asks 5 = .ok (.aload_n 0, 1) := by decide +kernel
theorem dX11_asks_6 : decode cX11_asks 6 = .ok (.iconst 0, 1) := by decide +kernel
theorem dX11_asks_7 : decode cX11_asks 7 = .ok (.putfield 73, 3) := by decide +kernel
theorem dX11_asks_10 : decode cX11_asks 10 = .ok (.aload_n 0, 1) := by decide +kernel
theorem dX11_asks_11 : decode cX11_asks 11 = .ok (.getfield 16, 3) := by decide +kernel
theorem dX11_asks_14 : decode cX11_asks 14 = .ok (.aload_n 0, 1) := by decide +kernel
theorem dX11_asks_15 : decode cX11_asks 15 = .ok (.getfield 9, 3) := by decide +kernel
theorem dX11_asks_18 : decode cX11_asks 18 = .ok (.iload_n 1, 1) := by decide +kernel
theorem dX11_asks_19 : decode cX11_asks 19 = .ok (.iconst 5, 1) := by decide +kernel
theorem dX11_asks_20 : decode cX11_asks 20 = .ok (.invokevirtual 89, 3) := by decide +kernel
theorem dX11_asks_23 : decode cX11_asks 23 = .ok (.aload_n 0, 1) := by decide +kernel
theorem dX11_asks_24 : decode cX11_asks 24 = .ok (.getfield 16, 3) := by decide +kernel
theorem dX11_asks_27 : decode cX11_asks 27 = .ok (.getfield 162, 3) := by decide +kernel
theorem dX11_asks_30 : decode cX11_asks 30 = .ok (.iconst 2, 1) := by decide +kernel
theorem dX11_asks_31 : decode cX11_asks 31 = .ok (.if_icmp .eq 5, 3) := by decide +kernel
theorem dX11_asks_34 : decode cX11_asks 34 = .ok (.iconst 0, 1) := by decide +kernel
theorem dX11_asks_35 : decode cX11_asks 35 = .ok (.ireturn, 1) := by decide +kernel
theorem dX11_asks_36 : decode cX11_asks 36 = .ok (.aload_n 0, 1) := by decide +kernel
theorem dX11_asks_37 : decode cX11_asks 37 = .ok (.getfield 16, 3) := by decide +kernel
theorem dX11_asks_40 : decode cX11_asks 40 = .ok (.getfield 165, 3) := by decide +kernel
theorem dX11_asks_43 : decode cX11_asks 43 = .ok (.lstore_n 2, 1) := by decide +kernel
theorem dX11_asks_44 : decode cX11_asks 44 = .ok (.aload_n 0, 1) := by decide +kernel
theorem dX11_asks_45 : decode cX11_asks 45 = .ok (.getfield 16, 3) := by decide +kernel
theorem dX11_asks_48 : decode cX11_asks 48 = .ok (.invokevirtual 169, 3) := by decide +kernel
theorem dX11_asks_51 : decode cX11_asks 51 = .ok (.aload_n 0, 1) := by decide +kernel
theorem dX11_asks_52 : decode cX11_asks 52 = .ok (.getfield 16, 3) := by decide +kernel
theorem dX11_asks_55 : decode cX11_asks 55 = .ok (.getfield 162, 3) := by decide +kernel
theorem dX11_asks_58 : decode cX11_asks 58 = .ok (.iconst 4, 1) := by decide +kernel
theorem dX11_asks_59 : decode cX11_asks 59 = .ok (.if_icmp .ne 13, 3) := by decide +kernel
theorem dX11_asks_62 : decode cX11_asks 62 = .ok (.aload_n 0, 1) := by decide +kernel
theorem dX11_asks_63 : decode cX11_asks 63 = .ok (.getfield 16, 3) := by decide +kernel
theorem dX11_asks_66 : decode cX11_asks 66 = .ok (.invokevirtual 172, 3) := by decide +kernel
theorem dX11_asks_69 : decode cX11_asks 69 = .ok (.ifCond .eq 5, 3) := by decide +kernel
theorem dX11_asks_72 : decode cX11_asks 72 = .ok (.iconst 0, 1) := by decide +kernel
theorem dX11_asks_73 : decode cX11_asks 73 = .ok (.ireturn, 1) := by decide +kernel
theorem dX11_asks_74 : decode cX11_asks 74 = .ok (.aload_n 0, 1) := by decide +kernel
theorem dX11_asks_75 : decode cX11_asks 75 = .ok (.getfield 16, 3) := by decide +kernel
theorem dX11_asks_78 : decode cX11_asks 78 = .ok (.aload_n 0, 1) := by decide +kernel
theorem dX11_asks_79 : decode cX11_asks 79 = .ok (.getfield 66, 3) := by decide +kernel
theorem dX11_asks_82 : decode cX11_asks 82 = .ok (.invokevirtual 175, 3) := by decide +kernel
theorem dX11_asks_85 : decode cX11_asks 85 = .ok (.aload_n 0, 1) := by decide +kernel
theorem dX11_asks_86 : decode cX11_asks 86 = .ok (.getfield 16, 3) := by decide +kernel
theorem dX11_asks_89 : decode cX11_asks 89 = .ok (.invokevirtual 169, 3) := by decide +kernel
theorem dX11_asks_92 : decode cX11_asks 92 = .ok (.aload_n 0, 1) := by decide +kernel
theorem dX11_asks_93 : decode cX11_asks 93 = .ok (.getfield 16, 3) := by decide +kernel
theorem dX11_asks_96 : decode cX11_asks 96 = .ok (.getfield 162, 3) := by decide +kernel
theorem dX11_asks_99 : decode cX11_asks 99 = .ok (.ifCond .eq 5, 3) := by decide +kernel
theorem dX11_asks_102 : decode cX11_asks 102 = .ok (.iconst 0, 1) := by decide +kernel
theorem dX11_asks_103 : decode cX11_asks 103 = .ok (.ireturn, 1) := by decide +kernel
theorem dX11_asks_104 : decode cX11_asks 104 = .ok (.aload_n 0, 1) := by decide +kernel
theorem dX11_asks_105 : decode cX11_asks 105 = .ok (.getfield 70, 3) := by decide +kernel
theorem dX11_asks_108 : decode cX11_asks 108 = .ok (.aload_n 0, 1) := by decide +kernel
theorem dX11_asks_109 : decode cX11_asks 109 = .ok (.getfield 66, 3) := by decide +kernel
theorem dX11_asks_112 : decode cX11_asks 112 = .ok (.invokevirtual 179, 3) := by decide +kernel
theorem dX11_asks_115 : decode cX11_asks 115 = .ok (.aload_n 0, 1) := by decide +kernel
theorem dX11_asks_116 : decode cX11_asks 116 = .ok (.getfield 70, 3) := by decide +kernel
theorem dX11_asks_119 : decode cX11_asks 119 = .ok (.lload_n 2, 1) := by decide +kernel
theorem dX11_asks_120 : decode cX11_asks 120 = .ok (.putfield 182, 3) := by decide +kernel
theorem dX11_asks_123 : decode cX11_asks 123 = .ok (.aload_n 0, 1) := by decide +kernel
theorem dX11_asks_124 : decode cX11_asks 124 = .ok (.iconst 1, 1) := by decide +kernel
theorem dX11_asks_125 : decode cX11_asks 125 = .ok (.putfield 184, 3) := by decide +kernel
theorem dX11_asks_128 : decode cX11_asks 128 = .ok (.aload_n 0, 1) := by decide +kernel
theorem dX11_asks_129 : decode cX11_asks 129 = .ok (.getfield 50, 3) := by decide +kernel
theorem dX11_asks_132 : decode cX11_asks 132 = .ok (.invokevirtual 88, 3) := by decide +kernel
theorem dX11_asks_135 : decode cX11_asks 135 = .ok (.iconst 1, 1) := by decide +kernel
theorem dX11_asks_136 : decode cX11_asks 136 = .ok (.ireturn, 1) := by decide +kernel
theorem dJ7_fill_53178_0 : decode cJ7_fill_53178 0 = .ok (.iconst 0, 1) := by decide +kernel
theorem dJ7_fill_53178_1 : decode cJ7_fill_53178 1 = .ok (.istore_n 2, 1) := by decide +kernel
theorem dJ7_fill_53178_2 : decode cJ7_fill_53178 2 = .ok (.aload_n 0, 1) := by decide +kernel
theorem dJ7_fill_53178_3 : decode cJ7_fill_53178 3 = .ok (.arraylength, 1) := by decide +kernel
theorem dJ7_fill_53178_4 : decode cJ7_fill_53178 4 = .ok (.istore_n 3, 1) := by decide +kernel
theorem dJ7_fill_53178_5 : decode cJ7_fill_53178 5 = .ok (.iload_n 2, 1) := by decide +kernel
theorem dJ7_fill_53178_6 : decode cJ7_fill_53178 6 = .ok (.iload_n 3, 1) := by decide +kernel
theorem dJ7_fill_53178_7 : decode cJ7_fill_53178 7 = .ok (.if_icmp .ge 13, 3) := by decide +kernel
theorem dJ7_fill_53178_10 : decode cJ7_fill_53178 10 = .ok (.aload_n 0, 1) := by decide +kernel
theorem dJ7_fill_53178_11 : decode cJ7_fill_53178 11 = .ok (.iload_n 2, 1) := by decide +kernel
theorem dJ7_fill_53178_12 : decode cJ7_fill_53178 12 = .ok (.iload_n 1, 1) := by decide +kernel
theorem dJ7_fill_53178_13 : decode cJ7_fill_53178 13 = .ok (.iastore, 1) := by decide +kernel
theorem dJ7_fill_53178_14 : decode cJ7_fill_53178 14 = .ok (.iinc 2 1, 3) := by decide +kernel
theorem dJ7_fill_53178_17 : decode cJ7_fill_53178 17 = .ok (.goto (-12), 3) := by decide +kernel
theorem dJ7_fill_53178_20 : decode cJ7_fill_53178 20 = .ok (.return_, 1) := by decide +kernel
