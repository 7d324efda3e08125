theorem dX4_readPrefix_94 : decode cX4_readPrefix 94 = .ok (.aload_n 0, 1) := by decide +kernel
theorem dX4_readPrefix_95 : decode cX4_readPrefix 95 = .ok (.bipush 22, 2) := by decide +kernel
theorem dX4_readPrefix_97 : decode cX4_readPrefix 97 = .ok (.iload_n 1, 1) := by decide +kernel
theorem dX4_readPrefix_98 : decode cX4_readPrefix 98 = .ok (.invokevirtual 286, 3) := by decide +kernel
theorem dX4_readPrefix_101 : decode cX4_readPrefix 101 = .ok (.goto 44, 3) := by decide +kernel
theorem dX4_readPrefix_104 : decode cX4_readPrefix 104 = .ok (.aload_n 0, 1) := by decide +kernel
theorem dX4_readPrefix_105 : decode cX4_readPrefix 105 = .ok (.bipush 23, 2) := by decide +kernel
theorem dX4_readPrefix_107 : decode cX4_readPrefix 107 = .ok (.iload_n 1, 1) := by decide +kernel
theorem dX4_readPrefix_108 : decode cX4_readPrefix 108 = .ok (.invokevirtual 286, 3) := by decide +kernel
theorem dX4_readPrefix_111 : decode cX4_readPrefix 111 = .ok (.goto 34, 3) := by decide +kernel
theorem dX4_readPrefix_114 : decode cX4_readPrefix 114 = .ok (.aload_n 0, 1) := by decide +kernel
theorem dX4_readPrefix_115 : decode cX4_readPrefix 115 = .ok (.bipush 24, 2) := by decide +kernel
theorem dX4_readPrefix_117 : decode cX4_readPrefix 117 = .ok (.iload_n 1, 1) := by decide +kernel
theorem dX4_readPrefix_118 : decode cX4_readPrefix 118 = .ok (.invokevirtual 286, 3) := by decide +kernel
theorem dX4_readPrefix_121 : decode cX4_readPrefix 121 = .ok (.goto 24, 3) := by decide +kernel
theorem dX4_readPrefix_124 : decode cX4_readPrefix 124 = .ok (.aload_n 0, 1) := by decide +kernel
theorem dX4_readPrefix_125 : decode cX4_readPrefix 125 = .ok (.iload_n 1, 1) := by decide +kernel
theorem dX4_readPrefix_126 : decode cX4_readPrefix 126 = .ok (.invokevirtual 289, 3) := by decide +kernel
theorem dX4_readPrefix_129 : decode cX4_readPrefix 129 = .ok (.goto 16, 3) := by decide +kernel
theorem dX4_readPrefix_132 : decode cX4_readPrefix 132 = .ok (.aload_n 0, 1) := by decide +kernel
theorem dX4_readPrefix_133 : decode cX4_readPrefix 133 = .ok (.iload_n 1, 1) := by decide +kernel
theorem dX4_readPrefix_134 : decode cX4_readPrefix 134 = .ok (.invokevirtual 292, 3) := by decide +kernel
theorem dX4_readPrefix_137 : decode cX4_readPrefix 137 = .ok (.goto 8, 3) := by decide +kernel
theorem dX4_readPrefix_140 : decode cX4_readPrefix 140 = .ok (.aload_n 0, 1) := by decide +kernel
theorem dX4_readPrefix_141 : decode cX4_readPrefix 141 = .ok (.iload_n 1, 1) := by decide +kernel
theorem dX4_readPrefix_142 : decode cX4_readPrefix 142 = .ok (.invokevirtual 295, 3) := by decide +kernel
theorem dX4_readPrefix_145 : decode cX4_readPrefix 145 = .ok (.return_, 1) := by decide +kernel
theorem dX4_readWord_0 : decode cX4_readWord 0 = .ok (.aload_n 0, 1) := by decide +kernel
theorem dX4_readWord_1 : decode cX4_readWord 1 = .ok (.invokevirtual 264, 3) := by decide +kernel
theorem dX4_readWord_4 : decode cX4_readWord 4 = .ok (.aload_n 0, 1) := by decide +kernel
theorem dX4_readWord_5 : decode cX4_readWord 5 = .ok (.getfield 9, 3) := by decide +kernel
theorem dX4_readWord_8 : decode cX4_readWord 8 = .ok (.invokevirtual 99, 3) := by decide +kernel
theorem dX4_readWord_11 : decode cX4_readWord 11 = .ok (.aload_n 0, 1) := by decide +kernel
theorem dX4_readWord_12 : decode cX4_readWord 12 = .ok (.iload_n 2, 1) := by decide +kernel
theorem dX4_readWord_13 : decode cX4_readWord 13 = .ok (.iconst 1, 1) := by decide +kernel
theorem dX4_readWord_14 : decode cX4_readWord 14 = .ok (.iadd, 1) := by decide +kernel
theorem dX4_readWord_15 : decode cX4_readWord 15 = .ok (.invokevirtual 298, 3) := by decide +kernel
theorem dX4_readWord_18 : decode cX4_readWord 18 = .ok (.aload_n 0, 1) := by decide +kernel
theorem dX4_readWord_19 : decode cX4_readWord 19 = .ok (.getfield 48, 3) := by decide +kernel
theorem dX4_readWord_22 : decode cX4_readWord 22 = .ok (.iload_n 1, 1) := by decide +kernel
theorem dX4_readWord_23 : decode cX4_readWord 23 = .ok (.iconst 0, 1) := by decide +kernel
theorem dX4_readWord_24 : decode cX4_readWord 24 = .ok (.iconst 0, 1) := by decide +kernel
theorem dX4_readWord_25 : decode cX4_readWord 25 = .ok (.invokevirtual 212, 3) := by decide +kernel
theorem dX4_readWord_28 : decode cX4_readWord 28 = .ok (.return_, 1) := by decide +kernel
theorem dX4_readPriv_0 : decode cX4_readPriv 0 = .ok (.aload_n 0, 1) := by decide +kernel
theorem dX4_readPriv_1 : decode cX4_readPriv 1 = .ok (.invokevirtual 264, 3) := by decide +kernel
theorem dX4_readPriv_4 : decode cX4_readPriv 4 = .ok (.aload_n 0, 1) := by decide +kernel
theorem dX4_readPriv_5 : decode cX4_readPriv 5 = .ok (.iconst 2, 1) := by decide +kernel
theorem dX4_readPriv_6 : decode cX4_readPriv 6 = .ok (.invokevirtual 182, 3) := by decide +kernel
theorem dX4_readPriv_9 : decode cX4_readPriv 9 = .ok (.astore_n 2, 1) := by decide +kernel
theorem dX4_readPriv_10 : decode cX4_readPriv 10 = .ok (.aload_n 0, 1) := by decide +kernel
theorem dX4_readPriv_11 : decode cX4_readPriv 11 = .ok (.getfield 9, 3) := by decide +kernel
theorem dX4_readPriv_14 : decode cX4_readPriv 14 = .ok (.invokevirtual 99, 3) := by decide +kernel
theorem dX4_readPriv_17 : decode cX4_readPriv 17 = .ok (.aload_n 0, 1) := by decide +kernel
theorem dX4_readPriv_18 : decode cX4_readPriv 18 = .ok (.getfield 9, 3) := by decide +kernel
theorem dX4_readPriv_21 : decode cX4_readPriv 21 = .ok (.getfield 67, 3) := by decide +kernel
theorem dX4_readPriv_24 : decode cX4_readPriv 24 = .ok (.bipush 91, 2) := by decide +kernel
theorem dX4_readPriv_26 : decode cX4_readPriv 26 = .ok (.if_icmp .ne 7, 3) := by decide +kernel
theorem dX4_readPriv_29 : decode cX4_readPriv 29 = .ok (.iconst 1, 1) := by decide +kernel
theorem dX4_readPriv_30 : decode cX4_readPriv 30 = .ok (.goto 4, 3) := by decide +kernel
theorem dX4_readPriv_33 : decode cX4_readPriv 33 = .ok (.iconst 0, 1) := by decide +kernel
theorem dX4_readPriv_34 : decode cX4_readPriv 34 = .ok (.istore_n 3, 1) := by decide +kernel
theorem dX4_readPriv_35 : decode cX4_readPriv 35 = .ok (.iload_n 3, 1) := by decide +kernel
theorem dX4_readPriv_36 : decode cX4_readPriv 36 = .ok (.ifCond .eq 8, 3) := by decide +kernel
theorem dX4_readPriv_39 : decode cX4_readPriv 39 = .ok (.aload_n 0, 1) := by decide +kernel
theorem dX4_readPriv_40 : decode cX4_readPriv 40 = .ok (.aload_n 2, 1) := by decide +kernel
theorem dX4_readPriv_41 : decode cX4_readPriv 41 = .ok (.invokevirtual 301, 3) := by decide +kernel
theorem dX4_readPriv_44 : decode cX4_readPriv 44 = .ok (.iconst 0, 1) := by decide +kernel
theorem dX4_readPriv_45 : decode cX4_readPriv 45 = .ok (.istore 4, 2) := by decide +kernel
theorem dX4_readPriv_47 : decode cX4_readPriv 47 = .ok (.iload_n 3, 1) := by decide +kernel
theorem dX4_readPriv_48 : decode cX4_readPriv 48 = .ok (.ifCond .eq 48, 3) := by decide +kernel
theorem dX4_readPriv_51 : decode cX4_readPriv 51 = .ok (.iload 4, 2) := by decide +kernel
theorem dX4_readPriv_53 : decode cX4_readPriv 53 = .ok (.bipush 8, 2) := by decide +kernel
theorem dX4_readPriv_55 : decode cX4_readPriv 55 = .ok (.if_icmp .gt 41, 3) := by decide +kernel
theorem dX4_readPriv_58 : decode cX4_readPriv 58 = .ok (.aload_n 0, 1) := by decide +kernel
theorem dX4_readPriv_59 : decode cX4_readPriv 59 = .ok (.getfield 9, 3) := by decide +kernel
theorem dX4_readPriv_62 : decode cX4_readPriv 62 = .ok (.invokevirtual 99, 3) := by decide +kernel
theorem dX4_readPriv_65 : decode cX4_readPriv 65 = .ok (.aload_n 0, 1) := by decide +kernel
theorem dX4_readPriv_66 : decode cX4_readPriv 66 = .ok (.iload 4, 2) := by decide +kernel
theorem dX4_readPriv_68 : decode cX4_readPriv 68 = .ok (.iconst 1, 1) := by decide +kernel
theorem dX4_readPriv_69 : decode cX4_readPriv 69 = .ok (.invokevirtual 122, 3) := by decide +kernel
theorem dX4_readPriv_72 : decode cX4_readPriv 72 = .ok (.aload_n 0, 1) := by decide +kernel
theorem dX4_readPriv_73 : decode cX4_readPriv 73 = .ok (.getfield 9, 3) := by decide +kernel
theorem dX4_readPriv_76 : decode cX4_readPriv 76 = .ok (.getfield 67, 3) := by decide +kernel
theorem dX4_readPriv_79 : decode cX4_readPriv 79 = .ok (.bipush 44, 2) := by decide +kernel
theorem dX4_readPriv_81 : decode cX4_readPriv 81 = .ok (.if_icmp .ne 7, 3) := by decide +kernel
theorem dX4_readPriv_84 : decode cX4_readPriv 84 = .ok (.iconst 1, 1) := by decide +kernel
theorem dX4_readPriv_85 : decode cX4_readPriv 85 = .ok (.goto 4, 3) := by decide +kernel
theorem dX4_readPriv_88 : decode cX4_readPriv 88 = .ok (.iconst 0, 1) := by decide +kernel
theorem dX4_readPriv_89 : decode cX4_readPriv 89 = .ok (.istore_n 3, 1) := by decide +kernel
theorem dX4_readPriv_90 : decode cX4_readPriv 90 = .ok (.iinc 4 1, 3) := by decide +kernel
theorem dX4_readPriv_93 : decode cX4_readPriv 93 = .ok (.goto (-46), 3) := by decide +kernel
theorem dX4_readPriv_96 : decode cX4_readPriv 96 = .ok (.aload_n 2, 1) := by decide +kernel
theorem dX4_readPriv_97 : decode cX4_readPriv 97 = .ok (.getfield 305, 3) := by decide +kernel
theorem dX4_readPriv_100 : decode cX4_readPriv 100 = .ok (.iconst 3, 1) := by decide +kernel
theorem dX4_readPriv_101 : decode cX4_readPriv 101 = .ok (.if_icmp .ne 9, 3) := by decide +kernel
theorem dX4_readPriv_104 : decode cX4_readPriv 104 = .ok (.aload_n 0, 1) := by decide +kernel
theorem dX4_readPriv_105 : decode cX4_readPriv 105 = .ok (.bipush 93, 2) := by decide +kernel
theorem dX4_readPriv_107 : decode cX4_readPriv 107 = .ok (.invokevirtual 118, 3) := by decide +kernel
theorem dX4_readPriv_110 : decode cX4_readPriv 110 = .ok (.aload_n 0, 1) := by decide +kernel
theorem dX4_readPriv_111 : decode cX4_readPriv 111 = .ok (.aload_n 2, 1) := by decide +kernel
theorem dX4_readPriv_112 : decode cX4_readPriv 112 = .ok (.putfield 48, 3) := by decide +kernel
theorem dX4_readPriv_115 : decode cX4_readPriv 115 = .ok (.aload_n 0, 1) := by decide +kernel
theorem dX4_readPriv_116 : decode cX4_readPriv 116 = .ok (.iload_n 1, 1) := by decide +kernel
theorem dX4_readPriv_117 : decode cX4_readPriv 117 = .ok (.iconst 1, 1) := by decide +kernel
theorem dX4_readPriv_118 : decode cX4_readPriv 118 = .ok (.iadd, 1) := by decide +kernel
theorem dX4_readPriv_119 : decode cX4_readPriv 119 = .ok (.invokevirtual 298, 3) := by decide +kernel
theorem dX4_readPriv_122 : decode cX4_readPriv 122 = .ok (.aload_n 0, 1) := by decide +kernel
theorem dX4_readPriv_123 : decode cX4_readPriv 123 = .ok (.aload_n 2, 1) := by decide +kernel
theorem dX4_readPriv_124 : decode cX4_readPriv 124 = .ok (.bipush 10, 2) := by decide +kernel
theorem dX4_readPriv_126 : decode cX4_readPriv 126 = .ok (.invokevirtual 308, 3) := by decide +kernel
theorem dX4_readPriv_129 : decode cX4_readPriv 129 = .ok (.return_, 1) := by decide +kernel
theorem dX4_openLimit_0 : decode cX4_openLimit 0 = .ok (.aload_n 0, 1) := by decide +kernel
theorem dX4_openLimit_1 : decode cX4_openLimit 1 = .ok (.aload_n 0, 1) := by decide +kernel
theorem dX4_openLimit_2 : decode cX4_openLimit 2 = .ok (.getfield 19, 3) := by decide +kernel
theorem dX4_openLimit_5 : decode cX4_openLimit 5 = .ok (.getfield 312, 3) := by decide +kernel
theorem dX4_openLimit_8 : decode cX4_openLimit 8 = .ok (.bipush 12, 2) := by decide +kernel
theorem dX4_openLimit_10 : decode cX4_openLimit 10 = .ok (.if_icmp .ge 7, 3) := by decide +kernel
theorem dX4_openLimit_13 : decode cX4_openLimit 13 = .ok (.iconst 1, 1) := by decide +kernel
theorem dX4_openLimit_14 : decode cX4_openLimit 14 = .ok (.goto 4, 3) := by decide +kernel
theorem dX4_openLimit_17 : decode cX4_openLimit 17 = .ok (.iconst 0, 1) := by decide +kernel
theorem dX4_openLimit_18 : decode cX4_openLimit 18 = .ok (.invokevirtual 72, 3) := by decide +kernel
theorem dX4_openLimit_21 : decode cX4_openLimit 21 = .ok (.aload_n 1, 1) := by decide +kernel
theorem dX4_openLimit_22 : decode cX4_openLimit 22 = .ok (.iconst 3, 1) := by decide +kernel
theorem dX4_openLimit_23 : decode cX4_openLimit 23 = .ok (.putfield 305, 3) := by decide +kernel
theorem dX4_openLimit_26 : decode cX4_openLimit 26 = .ok (.aload_n 1, 1) := by decide +kernel
theorem dX4_openLimit_27 : decode cX4_openLimit 27 = .ok (.aload_n 0, 1) := by decide +kernel
theorem dX4_openLimit_28 : decode cX4_openLimit 28 = .ok (.getfield 19, 3) := by decide +kernel
theorem dX4_openLimit_31 : decode cX4_openLimit 31 = .ok (.getfield 312, 3) := by decide +kernel
theorem dX4_openLimit_34 : decode cX4_openLimit 34 = .ok (.putfield 315, 3) := by decide +kernel
theorem dX4_openLimit_37 : decode cX4_openLimit 37 = .ok (.aload_n 0, 1) := by decide +kernel
theorem dX4_openLimit_38 : decode cX4_openLimit 38 = .ok (.getfield 19, 3) := by decide +kernel
theorem dX4_openLimit_41 : decode cX4_openLimit 41 = .ok (.invokevirtual 318, 3) := by decide +kernel
theorem dX4_openLimit_44 : decode cX4_openLimit 44 = .ok (.return_, 1) := by decide +kernel
theorem dX4_readUnder_0 : decode cX4_readUnder 0 = .ok (.aload_n 0, 1) := by decide +kernel
theorem dX4_readUnder_1 : decode cX4_readUnder 1 = .ok (.invokevirtual 264, 3) := by decide +kernel
theorem dX4_readUnder_4 : decode cX4_readUnder 4 = .ok (.aload_n 0, 1) := by decide +kernel
theorem dX4_readUnder_5 : decode cX4_readUnder 5 = .ok (.iconst 4, 1) := by decide +kernel
theorem dX4_readUnder_6 : decode cX4_readUnder 6 = .ok (.invokevirtual 182, 3) := by decide +kernel
theorem dX4_readUnder_9 : decode cX4_readUnder 9 = .ok (.astore_n 2, 1) := by decide +kernel
theorem dX4_readUnder_10 : decode cX4_readUnder 10 = .ok (.aload_n 0, 1) := by decide +kernel
theorem dX4_readUnder_11 : decode cX4_readUnder 11 = .ok (.getfield 9, 3) := by decide +kernel
theorem dX4_readUnder_14 : decode cX4_readUnder 14 = .ok (.invokevirtual 99, 3) := by decide +kernel
theorem dX4_readUnder_17 : decode cX4_readUnder 17 = .ok (.aload_n 0, 1) := by decide +kernel
theorem dX4_readUnder_18 : decode cX4_readUnder 18 = .ok (.iload_n 1, 1) := by decide +kernel
theorem dX4_readUnder_19 : decode cX4_readUnder 19 = .ok (.iconst 1, 1) := by decide +kernel
theorem dX4_readUnder_20 : decode cX4_readUnder 20 = .ok (.iadd, 1) := by decide +kernel
theorem dX4_readUnder_21 : decode cX4_readUnder 21 = .ok (.invokevirtual 298, 3) := by decide +kernel
theorem dX4_readUnder_24 : decode cX4_readUnder 24 = .ok (.aload_n 0, 1) := by decide +kernel
theorem dX4_readUnder_25 : decode cX4_readUnder 25 = .ok (.bipush 58, 2) := by decide +kernel
theorem dX4_readUnder_27 : decode cX4_readUnder 27 = .ok (.invokevirtual 118, 3) := by decide +kernel
theorem dX4_readUnder_30 : decode cX4_readUnder 30 = .ok (.aload_n 0, 1) := by decide +kernel
theorem dX4_readUnder_31 : decode cX4_readUnder 31 = .ok (.aload_n 2, 1) := by decide +kernel
theorem dX4_readUnder_32 : decode cX4_readUnder 32 = .ok (.putfield 48, 3) := by decide +kernel
theorem dX4_readUnder_35 : decode cX4_readUnder 35 = .ok (.aload_n 0, 1) := by decide +kernel
theorem dX4_readUnder_36 : decode cX4_readUnder 36 = .ok (.iload_n 1, 1) := by decide +kernel
theorem dX4_readUnder_37 : decode cX4_readUnder 37 = .ok (.iconst 1, 1) := by decide +kernel
theorem dX4_readUnder_38 : decode cX4_readUnder 38 = .ok (.iadd, 1) := by decide +kernel
theorem dX4_readUnder_39 : decode cX4_readUnder 39 = .ok (.invokevirtual 298, 3) := by decide +kernel
theorem dX4_readUnder_42 : decode cX4_readUnder 42 = .ok (.aload_n 0, 1) := by decide +kernel
theorem dX4_readUnder_43 : decode cX4_readUnder 43 = .ok (.aload_n 2, 1) := by decide +kernel
theorem dX4_readUnder_44 : decode cX4_readUnder 44 = .ok (.bipush 10, 2) := by decide +kernel
theorem dX4_readUnder_46 : decode cX4_readUnder 46 = .ok (.invokevirtual 308, 3) := by decide +kernel
theorem dX4_readUnder_49 : decode cX4_readUnder 49 = .ok (.return_, 1) := by decide +kernel
theorem dX4_readPostfix_0 : decode cX4_readPostfix 0 = .ok (.aload_n 0, 1) := by decide +kernel
theorem dX4_readPostfix_1 : decode cX4_readPostfix 1 = .ok (.iload_n 1, 1) := by decide +kernel
theorem dX4_readPostfix_2 : decode cX4_readPostfix 2 = .ok (.invokevirtual 321, 3) := by decide +kernel
theorem dX4_readPostfix_5 : decode cX4_readPostfix 5 = .ok (.iconst 1, 1) := by decide +kernel
theorem dX4_readPostfix_6 : decode cX4_readPostfix 6 = .ok (.istore_n 2, 1) := by decide +kernel
theorem dX4_readPostfix_7 : decode cX4_readPostfix 7 = .ok (.iconst 0, 1) := by decide +kernel
theorem dX4_readPostfix_8 : decode cX4_readPostfix 8 = .ok (.istore_n 3, 1) := by decide +kernel
theorem dX4_readPostfix_9 : decode cX4_readPostfix 9 = .ok (.iload_n 2, 1) := by decide +kernel
theorem dX4_readPostfix_10 : decode cX4_readPostfix 10 = .ok (.ifCond .eq 77, 3) := by decide +kernel
theorem dX4_readPostfix_13 : decode cX4_readPostfix 13 = .ok (.iload_n 3, 1) := by decide +kernel
theorem dX4_readPostfix_14 : decode cX4_readPostfix 14 = .ok (.sipush 3000, 3) := by decide +kernel
theorem dX4_readPostfix_17 : decode cX4_readPostfix 17 = .ok (.if_icmp .ge 70, 3) := by decide +kernel
theorem dX4_readPostfix_20 : decode cX4_readPostfix 20 = .ok (.aload_n 0, 1) := by decide +kernel
theorem dX4_readPostfix_21 : decode cX4_readPostfix 21 = .ok (.getfield 9, 3) := by decide +kernel
theorem dX4_readPostfix_24 : decode cX4_readPostfix 24 = .ok (.getfield 67, 3) := by decide +kernel
theorem dX4_readPostfix_27 : decode cX4_readPostfix 27 = .ok (.bipush 46, 2) := by decide +kernel
theorem dX4_readPostfix_29 : decode cX4_readPostfix 29 = .ok (.if_icmp .ne 12, 3) := by decide +kernel
theorem dX4_readPostfix_32 : decode cX4_readPostfix 32 = .ok (.aload_n 0, 1) := by decide +kernel
theorem dX4_readPostfix_33 : decode cX4_readPostfix 33 = .ok (.iload_n 1, 1) := by decide +kernel
theorem dX4_readPostfix_34 : decode cX4_readPostfix 34 = .ok (.invokevirtual 324, 3) := by decide +kernel
theorem dX4_readPostfix_37 : decode cX4_readPostfix 37 = .ok (.istore_n 2, 1) := by decide +kernel
theorem dX4_readPostfix_38 : decode cX4_readPostfix 38 = .ok (.goto 43, 3) := by decide +kernel
theorem dX4_readPostfix_41 : decode cX4_readPostfix 41 = .ok (.aload_n 0, 1) := by decide +kernel
theorem dX4_readPostfix_42 : decode cX4_readPostfix 42 = .ok (.getfield 9, 3) := by decide +kernel
theorem dX4_readPostfix_45 : decode cX4_readPostfix 45 = .ok (.getfield 67, 3) := by decide +kernel
theorem dX4_readPostfix_48 : decode cX4_readPostfix 48 = .ok (.bipush 40, 2) := by decide +kernel
theorem dX4_readPostfix_50 : decode cX4_readPostfix 50 = .ok (.if_icmp .ne 29, 3) := by decide +kernel
theorem dX4_readPostfix_53 : decode cX4_readPostfix 53 = .ok (.aload_n 0, 1) := by decide +kernel
theorem dX4_readPostfix_54 : decode cX4_readPostfix 54 = .ok (.invokevirtual 264, 3) := by decide +kernel
theorem dX4_readPostfix_57 : decode cX4_readPostfix 57 = .ok (.aload_n 0, 1) := by decide +kernel
theorem dX4_readPostfix_58 : decode cX4_readPostfix 58 = .ok (.iload_n 1, 1) := by decide +kernel
theorem dX4_readPostfix_59 : decode cX4_readPostfix 59 = .ok (.invokevirtual 328, 3) := by decide +kernel
theorem dX4_readPostfix_62 : decode cX4_readPostfix 62 = .ok (.istore 4, 2) := by decide +kernel
theorem dX4_readPostfix_64 : decode cX4_readPostfix 64 = .ok (.aload_n 0, 1) := by decide +kernel
theorem dX4_readPostfix_65 : decode cX4_readPostfix 65 = .ok (.getfield 48, 3) := by decide +kernel
theorem dX4_readPostfix_68 : decode cX4_readPostfix 68 = .ok (.bipush 8, 2) := by decide +kernel
theorem dX4_readPostfix_70 : decode cX4_readPostfix 70 = .ok (.iload 4, 2) := by decide +kernel
theorem dX4_readPostfix_72 : decode cX4_readPostfix 72 = .ok (.iconst 0, 1) := by decide +kernel
theorem dX4_readPostfix_73 : decode cX4_readPostfix 73 = .ok (.invokevirtual 212, 3) := by decide +kernel
theorem dX4_readPostfix_76 : decode cX4_readPostfix 76 = .ok (.goto 5, 3) := by decide +kernel
theorem dX4_readPostfix_79 : decode cX4_readPostfix 79 = .ok (.iconst 0, 1) := by decide +kernel
theorem dX4_readPostfix_80 : decode cX4_readPostfix 80 = .ok (.istore_n 2, 1) := by decide +kernel
theorem dX4_readPostfix_81 : decode cX4_readPostfix 81 = .ok (.iinc 3 1, 3) := by decide +kernel
theorem dX4_readPostfix_84 : decode cX4_readPostfix 84 = .ok (.goto (-75), 3) := by decide +kernel
theorem dX4_readPostfix_87 : decode cX4_readPostfix 87 = .ok (.return_, 1) := by decide +kernel
theorem dX4_readMember_0 : decode cX4_readMember 0 = .ok (.aload_n 0, 1) := by decide +kernel
theorem dX4_readMember_1 : decode cX4_readMember 1 = .ok (.invokevirtual 264, 3) := by decide +kernel
theorem dX4_readMember_4 : decode cX4_readMember 4 = .ok (.aload_n 0, 1) := by decide +kernel
theorem dX4_readMember_5 : decode cX4_readMember 5 = .ok (.getfield 9, 3) := by decide +kernel
theorem dX4_readMember_8 : decode cX4_readMember 8 = .ok (.invokevirtual 99, 3) := by decide +kernel
theorem dX4_readMember_11 : decode cX4_readMember 11 = .ok (.aload_n 0, 1) := by decide +kernel
theorem dX4_readMember_12 : decode cX4_readMember 12 = .ok (.invokevirtual 126, 3) := by decide +kernel
theorem dX4_readMember_15 : decode cX4_readMember 15 = .ok (.aload_n 0, 1) := by decide +kernel
theorem dX4_readMember_16 : decode cX4_readMember 16 = .ok (.getfield 15, 3) := by decide +kernel
theorem dX4_readMember_19 : decode cX4_readMember 19 = .ok (.aload_n 0, 1) := by decide +kernel
theorem dX4_readMember_20 : decode cX4_readMember 20 = .ok (.getfield 9, 3) := by decide +kernel
theorem dX4_readMember_23 : decode cX4_readMember 23 = .ok (.getfield 129, 3) := by decide +kernel
theorem dX4_readMember_26 : decode cX4_readMember 26 = .ok (.invokevirtual 331, 3) := by decide +kernel
theorem dX4_readMember_29 : decode cX4_readMember 29 = .ok (.istore_n 2, 1) := by decide +kernel
theorem dX4_readMember_30 : decode cX4_readMember 30 = .ok (.aload_n 0, 1) := by decide +kernel
theorem dX4_readMember_31 : decode cX4_readMember 31 = .ok (.getfield 9, 3) := by decide +kernel
theorem dX4_readMember_34 : decode cX4_readMember 34 = .ok (.invokevirtual 99, 3) := by decide +kernel
theorem dX4_readMember_37 : decode cX4_readMember 37 = .ok (.aload_n 0, 1) := by decide +kernel
theorem dX4_readMember_38 : decode cX4_readMember 38 = .ok (.getfield 9, 3) := by decide +kernel
theorem dX4_readMember_41 : decode cX4_readMember 41 = .ok (.getfield 67, 3) := by decide +kernel
theorem dX4_readMember_44 : decode cX4_readMember 44 = .ok (.bipush 40, 2) := by decide +kernel
theorem dX4_readMember_46 : decode cX4_readMember 46 = .ok (.if_icmp .ne 22, 3) := by decide +kernel
theorem dX4_readMember_49 : decode cX4_readMember 49 = .ok (.aload_n 0, 1) := by decide +kernel
theorem dX4_readMember_50 : decode cX4_readMember 50 = .ok (.iload_n 1, 1) := by decide +kernel
theorem dX4_readMember_51 : decode cX4_readMember 51 = .ok (.invokevirtual 328, 3) := by decide +kernel
theorem dX4_readMember_54 : decode cX4_readMember 54 = .ok (.istore_n 3, 1) := by decide +kernel
theorem dX4_readMember_55 : decode cX4_readMember 55 = .ok (.aload_n 0, 1) := by decide +kernel
theorem dX4_readMember_56 : decode cX4_readMember 56 = .ok (.getfield 48, 3) := by decide +kernel
theorem dX4_readMember_59 : decode cX4_readMember 59 = .ok (.bipush 7, 2) := by decide +kernel
theorem dX4_readMember_61 : decode cX4_readMember 61 = .ok (.iload_n 2, 1) := by decide +kernel
theorem dX4_readMember_62 : decode cX4_readMember 62 = .ok (.iload_n 3, 1) := by decide +kernel
theorem dX4_readMember_63 : decode cX4_readMember 63 = .ok (.invokevirtual 212, 3) := by decide +kernel
theorem dX4_readMember_66 : decode cX4_readMember 66 = .ok (.iconst 1, 1) := by decide +kernel
theorem dX4_readMember_67 : decode cX4_readMember 67 = .ok (.ireturn, 1) := by decide +kernel
theorem dX4_readMember_68 : decode cX4_readMember 68 = .ok (.aload_n 0, 1) := by decide +kernel
theorem dX4_readMember_69 : decode cX4_readMember 69 = .ok (.getfield 9, 3) := by decide +kernel
theorem dX4_readMember_72 : decode cX4_readMember 72 = .ok (.getfield 67, 3) := by decide +kernel
theorem dX4_readMember_75 : decode cX4_readMember 75 = .ok (.sipush 200, 3) := by decide +kernel
theorem dX4_readMember_78 : decode cX4_readMember 78 = .ok (.if_icmp .eq 15, 3) := by decide +kernel
theorem dX4_readMember_81 : decode cX4_readMember 81 = .ok (.aload_n 0, 1) := by decide +kernel
theorem dX4_readMember_82 : decode cX4_readMember 82 = .ok (.getfield 48, 3) := by decide +kernel
theorem dX4_readMember_85 : decode cX4_readMember 85 = .ok (.iconst 5, 1) := by decide +kernel
theorem dX4_readMember_86 : decode cX4_readMember 86 = .ok (.iload_n 2, 1) := by decide +kernel
theorem dX4_readMember_87 : decode cX4_readMember 87 = .ok (.iconst 0, 1) := by decide +kernel
theorem dX4_readMember_88 : decode cX4_readMember 88 = .ok (.invokevirtual 212, 3) := by decide +kernel
theorem dX4_readMember_91 : decode cX4_readMember 91 = .ok (.iconst 1, 1) := by decide +kernel
theorem dX4_readMember_92 : decode cX4_readMember 92 = .ok (.ireturn, 1) := by decide +kernel
theorem dX4_readMember_93 : decode cX4_readMember 93 = .ok (.aload_n 0, 1) := by decide +kernel
theorem dX4_readMember_94 : decode cX4_readMember 94 = .ok (.getfield 9, 3) := by decide +kernel
theorem dX4_readMember_97 : decode cX4_readMember 97 = .ok (.invokevirtual 99, 3) := by decide +kernel
theorem dX4_readMember_100 : decode cX4_readMember 100 = .ok (.aload_n 0, 1) := by decide +kernel
theorem dX4_readMember_101 : decode cX4_readMember 101 = .ok (.iload_n 1, 1) := by decide +kernel
theorem dX4_readMember_102 : decode cX4_readMember 102 = .ok (.iconst 1, 1) := by decide +kernel
theorem dX4_readMember_103 : decode cX4_readMember 103 = .ok (.iadd, 1) := by decide +kernel
theorem dX4_readMember_104 : decode cX4_readMember 104 = .ok (.invokevirtual 298, 3) := by decide +kernel
theorem dX4_readMember_107 : decode cX4_readMember 107 = .ok (.aload_n 0, 1) := by decide +kernel
theorem dX4_readMember_108 : decode cX4_readMember 108 = .ok (.getfield 48, 3) := by decide +kernel
theorem dX4_readMember_111 : decode cX4_readMember 111 = .ok (.bipush 6, 2) := by decide +kernel
theorem dX4_readMember_113 : decode cX4_readMember 113 = .ok (.iload_n 2, 1) := by decide +kernel
theorem dX4_readMember_114 : decode cX4_readMember 114 = .ok (.iconst 0, 1) := by decide +kernel
theorem dX4_readMember_115 : decode cX4_readMember 115 = .ok (.invokevirtual 212, 3) := by decide +kernel
theorem dX4_readMember_118 : decode cX4_readMember 118 = .ok (.iconst 0, 1) := by decide +kernel
theorem dX4_readMember_119 : decode cX4_readMember 119 = .ok (.ireturn, 1) := by decide +kernel
theorem dX4_readArguments_0 : decode cX4_readArguments 0 = .ok (.aload_n 0, 1) := by decide +kernel
theorem dX4_readArguments_1 : decode cX4_readArguments 1 = .ok (.getfield 9, 3) := by decide +kernel
theorem dX4_readArguments_4 : decode cX4_readArguments 4 = .ok (.invokevirtual 99, 3) := by decide +kernel
theorem dX4_readArguments_7 : decode cX4_readArguments 7 = .ok (.iconst 0, 1) := by decide +kernel
theorem dX4_readArguments_8 : decode cX4_readArguments 8 = .ok (.istore_n 2, 1) := by decide +kernel
theorem dX4_readArguments_9 : decode cX4_readArguments 9 = .ok (.aload_n 0, 1) := by decide +kernel
theorem dX4_readArguments_10 : decode cX4_readArguments 10 = .ok (.getfield 9, 3) := by decide +kernel
theorem dX4_readArguments_13 : decode cX4_readArguments 13 = .ok (.getfield 67, 3) := by decide +kernel
theorem dX4_readArguments_16 : decode cX4_readArguments 16 = .ok (.bipush 41, 2) := by decide +kernel
theorem dX4_readArguments_18 : decode cX4_readArguments 18 = .ok (.if_icmp .eq 7, 3) := by decide +kernel
theorem dX4_readArguments_21 : decode cX4_readArguments 21 = .ok (.iconst 1, 1) := by decide +kernel
theorem dX4_readArguments_22 : decode cX4_readArguments 22 = .ok (.goto 4, 3) := by decide +kernel
theorem dX4_readArguments_25 : decode cX4_readArguments 25 = .ok (.iconst 0, 1) := by decide +kernel
theorem dX4_readArguments_26 : decode cX4_readArguments 26 = .ok (.istore_n 3, 1) := by decide +kernel
theorem dX4_readArguments_27 : decode cX4_readArguments 27 = .ok (.iconst 0, 1) := by decide +kernel
theorem dX4_readArguments_28 : decode cX4_readArguments 28 = .ok (.istore 4, 2) := by decide +kernel
theorem dX4_readArguments_30 : decode cX4_readArguments 30 = .ok (.iload_n 3, 1) := by decide +kernel
theorem dX4_readArguments_31 : decode cX4_readArguments 31 = .ok (.ifCond .eq 79, 3) := by decide +kernel
theorem dX4_readArguments_34 : decode cX4_readArguments 34 = .ok (.iload 4, 2) := by decide +kernel
theorem dX4_readArguments_36 : decode cX4_readArguments 36 = .ok (.iconst 3, 1) := by decide +kernel
theorem dX4_readArguments_37 : decode cX4_readArguments 37 = .ok (.if_icmp .gt 73, 3) := by decide +kernel
theorem dX4_readArguments_40 : decode cX4_readArguments 40 = .ok (.aload_n 0, 1) := by decide +kernel
theorem dX4_readArguments_41 : decode cX4_readArguments 41 = .ok (.aload_n 0, 1) := by decide +kernel
theorem dX4_readArguments_42 : decode cX4_readArguments 42 = .ok (.getfield 9, 3) := by decide +kernel
theorem dX4_readArguments_45 : decode cX4_readArguments 45 = .ok (.invokevirtual 249, 3) := by decide +kernel
theorem dX4_readArguments_48 : decode cX4_readArguments 48 = .ok (.invokevirtual 82, 3) := by decide +kernel
theorem dX4_readArguments_51 : decode cX4_readArguments 51 = .ok (.aload_n 0, 1) := by decide +kernel
theorem dX4_readArguments_52 : decode cX4_readArguments 52 = .ok (.iload_n 2, 1) := by decide +kernel
theorem dX4_readArguments_53 : decode cX4_readArguments 53 = .ok (.iconst 3, 1) := by decide +kernel
theorem dX4_readArguments_54 : decode cX4_readArguments 54 = .ok (.if_icmp .ge 7, 3) := by decide +kernel
theorem dX4_readArguments_57 : decode cX4_readArguments 57 = .ok (.iconst 1, 1) := by decide +kernel
theorem dX4_readArguments_58 : decode cX4_readArguments 58 = .ok (.goto 4, 3) := by decide +kernel
theorem dX4_readArguments_61 : decode cX4_readArguments 61 = .ok (.iconst 0, 1) := by decide +kernel
theorem dX4_readArguments_62 : decode cX4_readArguments 62 = .ok (.invokevirtual 72, 3) := by decide +kernel
theorem dX4_readArguments_65 : decode cX4_readArguments 65 = .ok (.aload_n 0, 1) := by decide +kernel
theorem dX4_readArguments_66 : decode cX4_readArguments 66 = .ok (.iload_n 1, 1) := by decide +kernel
theorem dX4_readArguments_67 : decode cX4_readArguments 67 = .ok (.iconst 1, 1) := by decide +kernel
theorem dX4_readArguments_68 : decode cX4_readArguments 68 = .ok (.iadd, 1) := by decide +kernel
theorem dX4_readArguments_69 : decode cX4_readArguments 69 = .ok (.invokevirtual 209, 3) := by decide +kernel
theorem dX4_readArguments_72 : decode cX4_readArguments 72 = .ok (.iinc 2 1, 3) := by decide +kernel
theorem dX4_readArguments_75 : decode cX4_readArguments 75 = .ok (.aload_n 0, 1) := by decide +kernel
theorem dX4_readArguments_76 : decode cX4_readArguments 76 = .ok (.getfield 9, 3) := by decide +kernel
theorem dX4_readArguments_79 : decode cX4_readArguments 79 = .ok (.getfield 67, 3) := by decide +kernel
theorem dX4_readArguments_82 : decode cX4_readArguments 82 = .ok (.bipush 44, 2) := by decide +kernel
theorem dX4_readArguments_84 : decode cX4_readArguments 84 = .ok (.if_icmp .ne 7, 3) := by decide +kernel
theorem dX4_readArguments_87 : decode cX4_readArguments 87 = .ok (.iconst 1, 1) := by decide +kernel
theorem dX4_readArguments_88 : decode cX4_readArguments 88 = .ok (.goto 4, 3) := by decide +kernel
theorem dX4_readArguments_91 : decode cX4_readArguments 91 = .ok (.iconst 0, 1) := by decide +kernel
theorem dX4_readArguments_92 : decode cX4_readArguments 92 = .ok (.istore_n 3, 1) := by decide +kernel
theorem dX4_readArguments_93 : decode cX4_readArguments 93 = .ok (.iload_n 3, 1) := by decide +kernel
theorem dX4_readArguments_94 : decode cX4_readArguments 94 = .ok (.ifCond .eq 10, 3) := by decide +kernel
theorem dX4_readArguments_97 : decode cX4_readArguments 97 = .ok (.aload_n 0, 1) := by decide +kernel
theorem dX4_readArguments_98 : decode cX4_readArguments 98 = .ok (.getfield 9, 3) := by decide +kernel
theorem dX4_readArguments_101 : decode cX4_readArguments 101 = .ok (.invokevirtual 99, 3) := by decide +kernel
theorem dX4_readArguments_104 : decode cX4_readArguments 104 = .ok (.iinc 4 1, 3) := by decide +kernel
theorem dX4_readArguments_107 : decode cX4_readArguments 107 = .ok (.goto (-77), 3) := by decide +kernel
theorem dX4_readArguments_110 : decode cX4_readArguments 110 = .ok (.aload_n 0, 1) := by decide +kernel
theorem dX4_readArguments_111 : decode cX4_readArguments 111 = .ok (.bipush 41, 2) := by decide +kernel
theorem dX4_readArguments_113 : decode cX4_readArguments 113 = .ok (.invokevirtual 118, 3) := by decide +kernel
theorem dX4_readArguments_116 : decode cX4_readArguments 116 = .ok (.iload_n 2, 1) := by decide +kernel
theorem dX4_readArguments_117 : decode cX4_readArguments 117 = .ok (.ireturn, 1) := by decide +kernel
theorem dX4_readAtom_0 : decode cX4_readAtom 0 = .ok (.aload_n 0, 1) := by decide +kernel
theorem dX4_readAtom_1 : decode cX4_readAtom 1 = .ok (.getfield 9, 3) := by decide +kernel
theorem dX4_readAtom_4 : decode cX4_readAtom 4 = .ok (.getfield 67, 3) := by decide +kernel
theorem dX4_readAtom_7 : decode cX4_readAtom 7 = .ok (.lookupswitch 123 #[(40, 65), (123, 57), (222, 95), (223, 88), (227, 103), (228, 113)], 57) := by decide +kernel
theorem dX4_readAtom_64 : decode cX4_readAtom 64 = .ok (.aload_n 0, 1) := by decide +kernel
theorem dX4_readAtom_65 : decode cX4_readAtom 65 = .ok (.iload_n 1, 1) := by decide +kernel
theorem dX4_readAtom_66 : decode cX4_readAtom 66 = .ok (.invokevirtual 334, 3) := by decide +kernel
theorem dX4_readAtom_69 : decode cX4_readAtom 69 = .ok (.goto 65, 3) := by decide +kernel
theorem dX4_readAtom_72 : decode cX4_readAtom 72 = .ok (.aload_n 0, 1) := by decide +kernel
theorem dX4_readAtom_73 : decode cX4_readAtom 73 = .ok (.getfield 9, 3) := by decide +kernel
theorem dX4_readAtom_76 : decode cX4_readAtom 76 = .ok (.invokevirtual 99, 3) := by decide +kernel
theorem dX4_readAtom_79 : decode cX4_readAtom 79 = .ok (.aload_n 0, 1) := by decide +kernel
theorem dX4_readAtom_80 : decode cX4_readAtom 80 = .ok (.iload_n 1, 1) := by decide +kernel
theorem dX4_readAtom_81 : decode cX4_readAtom 81 = .ok (.iconst 1, 1) := by decide +kernel
theorem dX4_readAtom_82 : decode cX4_readAtom 82 = .ok (.iadd, 1) := by decide +kernel
theorem dX4_readAtom_83 : decode cX4_readAtom 83 = .ok (.invokevirtual 209, 3) := by decide +kernel
theorem dX4_readAtom_86 : decode cX4_readAtom 86 = .ok (.aload_n 0, 1) := by decide +kernel
theorem dX4_readAtom_87 : decode cX4_readAtom 87 = .ok (.bipush 41, 2) := by decide +kernel
theorem dX4_readAtom_89 : decode cX4_readAtom 89 = .ok (.invokevirtual 118, 3) := by decide +kernel
theorem dX4_readAtom_92 : decode cX4_readAtom 92 = .ok (.goto 42, 3) := by decide +kernel
theorem dX4_readAtom_95 : decode cX4_readAtom 95 = .ok (.aload_n 0, 1) := by decide +kernel
theorem dX4_readAtom_96 : decode cX4_readAtom 96 = .ok (.invokevirtual 337, 3) := by decide +kernel
theorem dX4_readAtom_99 : decode cX4_readAtom 99 = .ok (.goto 35, 3) := by decide +kernel
theorem dX4_readAtom_102 : decode cX4_readAtom 102 = .ok (.aload_n 0, 1) := by decide +kernel
theorem dX4_readAtom_103 : decode cX4_readAtom 103 = .ok (.iload_n 1, 1) := by decide +kernel
theorem dX4_readAtom_104 : decode cX4_readAtom 104 = .ok (.invokevirtual 340, 3) := by decide +kernel
theorem dX4_readAtom_107 : decode cX4_readAtom 107 = .ok (.goto 27, 3) := by decide +kernel
theorem dX4_readAtom_110 : decode cX4_readAtom 110 = .ok (.aload_n 0, 1) := by decide +kernel
theorem dX4_readAtom_111 : decode cX4_readAtom 111 = .ok (.bipush 25, 2) := by decide +kernel
theorem dX4_readAtom_113 : decode cX4_readAtom 113 = .ok (.iload_n 1, 1) := by decide +kernel
theorem dX4_readAtom_114 : decode cX4_readAtom 114 = .ok (.invokevirtual 343, 3) := by decide +kernel
theorem dX4_readAtom_117 : decode cX4_readAtom 117 = .ok (.goto 17, 3) := by decide +kernel
theorem dX4_readAtom_120 : decode cX4_readAtom 120 = .ok (.aload_n 0, 1) := by decide +kernel
theorem dX4_readAtom_121 : decode cX4_readAtom 121 = .ok (.bipush 26, 2) := by decide +kernel
theorem dX4_readAtom_123 : decode cX4_readAtom 123 = .ok (.iload_n 1, 1) := by decide +kernel
theorem dX4_readAtom_124 : decode cX4_readAtom 124 = .ok (.invokevirtual 343, 3) := by decide +kernel
theorem dX4_readAtom_127 : decode cX4_readAtom 127 = .ok (.goto 7, 3) := by decide +kernel
theorem dX4_readAtom_130 : decode cX4_readAtom 130 = .ok (.aload_n 0, 1) := by decide +kernel
theorem dX4_readAtom_131 : decode cX4_readAtom 131 = .ok (.invokevirtual 346, 3) := by decide +kernel
theorem dX4_readAtom_134 : decode cX4_readAtom 134 = .ok (.return_, 1) := by decide +kernel
theorem dX4_readPlainAtom_0 : decode cX4_readPlainAtom 0 = .ok (.aload_n 0, 1) := by decide +kernel
theorem dX4_readPlainAtom_1 : decode cX4_readPlainAtom 1 = .ok (.invokevirtual 264, 3) := by decide +kernel
theorem dX4_readPlainAtom_4 : decode cX4_readPlainAtom 4 = .ok (.aload_n 0, 1) := by decide +kernel
theorem dX4_readPlainAtom_5 : decode cX4_readPlainAtom 5 = .ok (.getfield 9, 3) := by decide +kernel
theorem dX4_readPlainAtom_8 : decode cX4_readPlainAtom 8 = .ok (.getfield 67, 3) := by decide +kernel
theorem dX4_readPlainAtom_11 : decode cX4_readPlainAtom 11 = .ok (.lookupswitch 110 #[(3, 41), (224, 68), (225, 81), (226, 96)], 41) := by decide +kernel
theorem dX4_readPlainAtom_52 : decode cX4_readPlainAtom 52 = .ok (.aload_n 0, 1) := by decide +kernel
theorem dX4_readPlainAtom_53 : decode cX4_readPlainAtom 53 = .ok (.getfield 48, 3) := by decide +kernel
theorem dX4_readPlainAtom_56 : decode cX4_readPlainAtom 56 = .ok (.iconst 0, 1) := by decide +kernel
theorem dX4_readPlainAtom_57 : decode cX4_readPlainAtom 57 = .ok (.aload_n 0, 1) := by decide +kernel
theorem dX4_readPlainAtom_58 : decode cX4_readPlainAtom 58 = .ok (.getfield 15, 3) := by decide +kernel
theorem dX4_readPlainAtom_61 : decode cX4_readPlainAtom 61 = .ok (.aload_n 0, 1) := by decide +kernel
theorem dX4_readPlainAtom_62 : decode cX4_readPlainAtom 62 = .ok (.getfield 9, 3) := by decide +kernel
theorem dX4_readPlainAtom_65 : decode cX4_readPlainAtom 65 = .ok (.getfield 129, 3) := by decide +kernel
theorem dX4_readPlainAtom_68 : decode cX4_readPlainAtom 68 = .ok (.l2i, 1) := by decide +kernel
theorem dX4_readPlainAtom_69 : decode cX4_readPlainAtom 69 = .ok (.invokevirtual 349, 3) := by decide +kernel
theorem dX4_readPlainAtom_72 : decode cX4_readPlainAtom 72 = .ok (.iconst 0, 1) := by decide +kernel
theorem dX4_readPlainAtom_73 : decode cX4_readPlainAtom 73 = .ok (.invokevirtual 212, 3) := by decide +kernel
theorem dX4_readPlainAtom_76 : decode cX4_readPlainAtom 76 = .ok (.goto 53, 3) := by decide +kernel
theorem dX4_readPlainAtom_79 : decode cX4_readPlainAtom 79 = .ok (.aload_n 0, 1) := by decide +kernel
theorem dX4_readPlainAtom_80 : decode cX4_readPlainAtom 80 = .ok (.getfield 48, 3) := by decide +kernel
theorem dX4_readPlainAtom_83 : decode cX4_readPlainAtom 83 = .ok (.iconst 1, 1) := by decide +kernel
theorem dX4_readPlainAtom_84 : decode cX4_readPlainAtom 84 = .ok (.iconst 0, 1) := by decide +kernel
theorem dX4_readPlainAtom_85 : decode cX4_readPlainAtom 85 = .ok (.iconst 0, 1) := by decide +kernel
theorem dX4_readPlainAtom_86 : decode cX4_readPlainAtom 86 = .ok (.invokevirtual 212, 3) := by decide +kernel
theorem dX4_readPlainAtom_89 : decode cX4_readPlainAtom 89 = .ok (.goto 40, 3) := by decide +kernel
theorem dX4_readPlainAtom_92 : decode cX4_readPlainAtom 92 = .ok (.aload_n 0, 1) := by decide +kernel
theorem dX4_readPlainAtom_93 : decode cX4_readPlainAtom 93 = .ok (.aload_n 0, 1) := by decide +kernel
theorem dX4_readPlainAtom_94 : decode cX4_readPlainAtom 94 = .ok (.getfield 44, 3) := by decide +kernel
theorem dX4_readPlainAtom_97 : decode cX4_readPlainAtom 97 = .ok (.iconst 0, 1) := by decide +kernel
theorem dX4_readPlainAtom_98 : decode cX4_readPlainAtom 98 = .ok (.invokevirtual 352, 3) := by decide +kernel
theorem dX4_readPlainAtom_101 : decode cX4_readPlainAtom 101 = .ok (.invokevirtual 355, 3) := by decide +kernel
theorem dX4_readPlainAtom_104 : decode cX4_readPlainAtom 104 = .ok (.goto 25, 3) := by decide +kernel
theorem dX4_readPlainAtom_107 : decode cX4_readPlainAtom 107 = .ok (.aload_n 0, 1) := by decide +kernel
theorem dX4_readPlainAtom_108 : decode cX4_readPlainAtom 108 = .ok (.getfield 48, 3) := by decide +kernel
theorem dX4_readPlainAtom_111 : decode cX4_readPlainAtom 111 = .ok (.bipush 27, 2) := by decide +kernel
theorem dX4_readPlainAtom_113 : decode cX4_readPlainAtom 113 = .ok (.iconst 0, 1) := by decide +kernel
theorem dX4_readPlainAtom_114 : decode cX4_readPlainAtom 114 = .ok (.iconst 0, 1) := by decide +kernel
theorem dX4_readPlainAtom_115 : decode cX4_readPlainAtom 115 = .ok (.invokevirtual 212, 3) := by decide +kernel
theorem dX4_readPlainAtom_118 : decode cX4_readPlainAtom 118 = .ok (.goto 11, 3) := by decide +kernel
theorem dX4_readPlainAtom_121 : decode cX4_readPlainAtom 121 = .ok (.aload_n 0, 1) := by decide +kernel
theorem dX4_readPlainAtom_122 : decode cX4_readPlainAtom 122 = .ok (.aload_n 0, 1) := by decide +kernel
theorem dX4_readPlainAtom_123 : decode cX4_readPlainAtom 123 = .ok (.invokevirtual 358, 3) := by decide +kernel
theorem dX4_readPlainAtom_126 : decode cX4_readPlainAtom 126 = .ok (.invokevirtual 355, 3) := by decide +kernel
theorem dX4_readPlainAtom_129 : decode cX4_readPlainAtom 129 = .ok (.aload_n 0, 1) := by decide +kernel
theorem dX4_readPlainAtom_130 : decode cX4_readPlainAtom 130 = .ok (.getfield 9, 3) := by decide +kernel
theorem dX4_readPlainAtom_133 : decode cX4_readPlainAtom 133 = .ok (.invokevirtual 99, 3) := by decide +kernel
theorem dX4_readPlainAtom_136 : decode cX4_readPlainAtom 136 = .ok (.return_, 1) := by decide +kernel
theorem dX4_variableKey_0 : decode cX4_variableKey 0 = .ok (.aload_n 0, 1) := by decide +kernel
theorem dX4_variableKey_1 : decode cX4_variableKey 1 = .ok (.aload_n 0, 1) := by decide +kernel
theorem dX4_variableKey_2 : decode cX4_variableKey 2 = .ok (.getfield 9, 3) := by decide +kernel
theorem dX4_variableKey_5 : decode cX4_variableKey 5 = .ok (.getfield 129, 3) := by decide +kernel
theorem dX4_variableKey_8 : decode cX4_variableKey 8 = .ok (.invokevirtual 232, 3) := by decide +kernel
theorem dX4_variableKey_11 : decode cX4_variableKey 11 = .ok (.istore_n 1, 1) := by decide +kernel
theorem dX4_variableKey_12 : decode cX4_variableKey 12 = .ok (.iload_n 1, 1) := by decide +kernel
theorem dX4_variableKey_13 : decode cX4_variableKey 13 = .ok (.ifCond .lt 9, 3) := by decide +kernel
theorem dX4_variableKey_16 : decode cX4_variableKey 16 = .ok (.iload_n 1, 1) := by decide +kernel
theorem dX4_variableKey_17 : decode cX4_variableKey 17 = .ok (.bipush 12, 2) := by decide +kernel
theorem dX4_variableKey_19 : decode cX4_variableKey 19 = .ok (.if_icmp .lt 17, 3) := by decide +kernel
theorem dX4_variableKey_22 : decode cX4_variableKey 22 = .ok (.aload_n 0, 1) := by decide +kernel
theorem dX4_variableKey_23 : decode cX4_variableKey 23 = .ok (.iconst 3, 1) := by decide +kernel
theorem dX4_variableKey_24 : decode cX4_variableKey 24 = .ok (.aload_n 0, 1) := by decide +kernel
theorem dX4_variableKey_25 : decode cX4_variableKey 25 = .ok (.getfield 9, 3) := by decide +kernel
theorem dX4_variableKey_28 : decode cX4_variableKey 28 = .ok (.getfield 92, 3) := by decide +kernel
theorem dX4_variableKey_31 : decode cX4_variableKey 31 = .ok (.invokevirtual 95, 3) := by decide +kernel
theorem dX4_variableKey_34 : decode cX4_variableKey 34 = .ok (.iconst (-1), 1) := by decide +kernel
theorem dX4_variableKey_35 : decode cX4_variableKey 35 = .ok (.ireturn, 1) := by decide +kernel
theorem dX4_variableKey_36 : decode cX4_variableKey 36 = .ok (.aload_n 0, 1) := by decide +kernel
theorem dX4_variableKey_37 : decode cX4_variableKey 37 = .ok (.getfield 34, 3) := by decide +kernel
theorem dX4_variableKey_40 : decode cX4_variableKey 40 = .ok (.iload_n 1, 1) := by decide +kernel
theorem dX4_variableKey_41 : decode cX4_variableKey 41 = .ok (.iaload, 1) := by decide +kernel
theorem dX4_variableKey_42 : decode cX4_variableKey 42 = .ok (.ireturn, 1) := by decide +kernel
theorem dX4_readNew_0 : decode cX4_readNew 0 = .ok (.aload_n 0, 1) := by decide +kernel
theorem dX4_readNew_1 : decode cX4_readNew 1 = .ok (.invokevirtual 264, 3) := by decide +kernel
theorem dX4_readNew_4 : decode cX4_readNew 4 = .ok (.aload_n 0, 1) := by decide +kernel
theorem dX4_readNew_5 : decode cX4_readNew 5 = .ok (.getfield 9, 3) := by decide +kernel
theorem dX4_readNew_8 : decode cX4_readNew 8 = .ok (.invokevirtual 99, 3) := by decide +kernel
theorem dX4_readNew_11 : decode cX4_readNew 11 = .ok (.aload_n 0, 1) := by decide +kernel
theorem dX4_readNew_12 : decode cX4_readNew 12 = .ok (.invokevirtual 126, 3) := by decide +kernel
theorem dX4_readNew_15 : decode cX4_readNew 15 = .ok (.aload_n 0, 1) := by decide +kernel
theorem dX4_readNew_16 : decode cX4_readNew 16 = .ok (.getfield 15, 3) := by decide +kernel
theorem dX4_readNew_19 : decode cX4_readNew 19 = .ok (.aload_n 0, 1) := by decide +kernel
theorem dX4_readNew_20 : decode cX4_readNew 20 = .ok (.getfield 9, 3) := by decide +kernel
theorem dX4_readNew_23 : decode cX4_readNew 23 = .ok (.getfield 129, 3) := by decide +kernel
theorem dX4_readNew_26 : decode cX4_readNew 26 = .ok (.invokevirtual 141, 3) := by decide +kernel
theorem dX4_readNew_29 : decode cX4_readNew 29 = .ok (.istore_n 1, 1) := by decide +kernel
theorem dX4_readNew_30 : decode cX4_readNew 30 = .ok (.iload_n 1, 1) := by decide +kernel
theorem dX4_readNew_31 : decode cX4_readNew 31 = .ok (.iconst (-1), 1) := by decide +kernel
theorem dX4_readNew_32 : decode cX4_readNew 32 = .ok (.if_icmp .ne 15, 3) := by decide +kernel
theorem dX4_readNew_35 : decode cX4_readNew 35 = .ok (.aload_n 0, 1) := by decide +kernel
theorem dX4_readNew_36 : decode cX4_readNew 36 = .ok (.iconst 3, 1) := by decide +kernel
theorem dX4_readNew_37 : decode cX4_readNew 37 = .ok (.aload_n 0, 1) := by decide +kernel
theorem dX4_readNew_38 : decode cX4_readNew 38 = .ok (.getfield 9, 3) := by decide +kernel
theorem dX4_readNew_41 : decode cX4_readNew 41 = .ok (.getfield 92, 3) := by decide +kernel
theorem dX4_readNew_44 : decode cX4_readNew 44 = .ok (.invokevirtual 95, 3) := by decide +kernel
theorem dX4_readNew_47 : decode cX4_readNew 47 = .ok (.aload_n 0, 1) := by decide +kernel
theorem dX4_readNew_48 : decode cX4_readNew 48 = .ok (.getfield 48, 3) := by decide +kernel
theorem dX4_readNew_51 : decode cX4_readNew 51 = .ok (.iconst 4, 1) := by decide +kernel
theorem dX4_readNew_52 : decode cX4_readNew 52 = .ok (.iload_n 1, 1) := by decide +kernel
theorem dX4_readNew_53 : decode cX4_readNew 53 = .ok (.iconst 0, 1) := by decide +kernel
theorem dX4_readNew_54 : decode cX4_readNew 54 = .ok (.invokevirtual 212, 3) := by decide +kernel
theorem dX4_readNew_57 : decode cX4_readNew 57 = .ok (.aload_n 0, 1) := by decide +kernel
theorem dX4_readNew_58 : decode cX4_readNew 58 = .ok (.getfield 9, 3) := by decide +kernel
theorem dX4_readNew_61 : decode cX4_readNew 61 = .ok (.invokevirtual 99, 3) := by decide +kernel
theorem dX4_readNew_64 : decode cX4_readNew 64 = .ok (.return_, 1) := by decide +kernel
theorem dX4_readFun_0 : decode cX4_readFun 0 = .ok (.aload_n 0, 1) := by decide +kernel
theorem dX4_readFun_1 : decode cX4_readFun 1 = .ok (.invokevirtual 264, 3) := by decide +kernel
theorem dX4_readFun_4 : decode cX4_readFun 4 = .ok (.aload_n 0, 1) := by decide +kernel
theorem dX4_readFun_5 : decode cX4_readFun 5 = .ok (.getfield 61, 3) := by decide +kernel
theorem dX4_readFun_8 : decode cX4_readFun 8 = .ok (.istore_n 2, 1) := by decide +kernel
theorem dX4_readFun_9 : decode cX4_readFun 9 = .ok (.aload_n 0, 1) := by decide +kernel
theorem dX4_readFun_10 : decode cX4_readFun 10 = .ok (.iconst 1, 1) := by decide +kernel
theorem dX4_readFun_11 : decode cX4_readFun 11 = .ok (.invokevirtual 182, 3) := by decide +kernel
theorem dX4_readFun_14 : decode cX4_readFun 14 = .ok (.astore_n 3, 1) := by decide +kernel
theorem dX4_readFun_15 : decode cX4_readFun 15 = .ok (.aload_n 0, 1) := by decide +kernel
theorem dX4_readFun_16 : decode cX4_readFun 16 = .ok (.aload_n 3, 1) := by decide +kernel
theorem dX4_readFun_17 : decode cX4_readFun 17 = .ok (.putfield 48, 3) := by decide +kernel
theorem dX4_readFun_20 : decode cX4_readFun 20 = .ok (.aload_n 0, 1) := by decide +kernel
theorem dX4_readFun_21 : decode cX4_readFun 21 = .ok (.getfield 9, 3) := by decide +kernel
theorem dX4_readFun_24 : decode cX4_readFun 24 = .ok (.invokevirtual 99, 3) := by decide +kernel
theorem dX4_readFun_27 : decode cX4_readFun 27 = .ok (.aload_n 0, 1) := by decide +kernel
theorem dX4_readFun_28 : decode cX4_readFun 28 = .ok (.bipush 40, 2) := by decide +kernel
theorem dX4_readFun_30 : decode cX4_readFun 30 = .ok (.invokevirtual 118, 3) := by decide +kernel
theorem dX4_readFun_33 : decode cX4_readFun 33 = .ok (.aload_n 0, 1) := by decide +kernel
theorem dX4_readFun_34 : decode cX4_readFun 34 = .ok (.invokevirtual 185, 3) := by decide +kernel
theorem dX4_readFun_37 : decode cX4_readFun 37 = .ok (.aload_n 0, 1) := by decide +kernel
theorem dX4_readFun_38 : decode cX4_readFun 38 = .ok (.bipush 41, 2) := by decide +kernel
theorem dX4_readFun_40 : decode cX4_readFun 40 = .ok (.invokevirtual 118, 3) := by decide +kernel
theorem dX4_readFun_43 : decode cX4_readFun 43 = .ok (.aload_n 0, 1) := by decide +kernel
theorem dX4_readFun_44 : decode cX4_readFun 44 = .ok (.aload_n 0, 1) := by decide +kernel
theorem dX4_readFun_45 : decode cX4_readFun 45 = .ok (.getfield 9, 3) := by decide +kernel
theorem dX4_readFun_48 : decode cX4_readFun 48 = .ok (.getfield 67, 3) := by decide +kernel
theorem dX4_readFun_51 : decode cX4_readFun 51 = .ok (.bipush 123, 2) := by decide +kernel
theorem dX4_readFun_53 : decode cX4_readFun 53 = .ok (.if_icmp .ne 7, 3) := by decide +kernel
theorem dX4_readFun_56 : decode cX4_readFun 56 = .ok (.iconst 1, 1) := by decide +kernel
theorem dX4_readFun_57 : decode cX4_readFun 57 = .ok (.goto 4, 3) := by decide +kernel
theorem dX4_readFun_60 : decode cX4_readFun 60 = .ok (.iconst 0, 1) := by decide +kernel
theorem dX4_readFun_61 : decode cX4_readFun 61 = .ok (.invokevirtual 82, 3) := by decide +kernel
theorem dX4_readFun_64 : decode cX4_readFun 64 = .ok (.aload_n 0, 1) := by decide +kernel
theorem dX4_readFun_65 : decode cX4_readFun 65 = .ok (.iload_n 1, 1) := by decide +kernel
theorem dX4_readFun_66 : decode cX4_readFun 66 = .ok (.invokevirtual 334, 3) := by decide +kernel
theorem dX4_readFun_69 : decode cX4_readFun 69 = .ok (.aload_n 0, 1) := by decide +kernel
theorem dX4_readFun_70 : decode cX4_readFun 70 = .ok (.iload_n 2, 1) := by decide +kernel
theorem dX4_readFun_71 : decode cX4_readFun 71 = .ok (.putfield 61, 3) := by decide +kernel
theorem dX4_readFun_74 : decode cX4_readFun 74 = .ok (.aload_n 0, 1) := by decide +kernel
theorem dX4_readFun_75 : decode cX4_readFun 75 = .ok (.aload_n 3, 1) := by decide +kernel
theorem dX4_readFun_76 : decode cX4_readFun 76 = .ok (.bipush 9, 2) := by decide +kernel
theorem dX4_readFun_78 : decode cX4_readFun 78 = .ok (.invokevirtual 308, 3) := by decide +kernel
theorem dX4_readFun_81 : decode cX4_readFun 81 = .ok (.return_, 1) := by decide +kernel
theorem dX4_readRow_0 : decode cX4_readRow 0 = .ok (.aload_n 0, 1) := by decide +kernel
theorem dX4_readRow_1 : decode cX4_readRow 1 = .ok (.getfield 9, 3) := by decide +kernel
theorem dX4_readRow_4 : decode cX4_readRow 4 = .ok (.invokevirtual 99, 3) := by decide +kernel
theorem dX4_readRow_7 : decode cX4_readRow 7 = .ok (.aload_n 0, 1) := by decide +kernel
theorem dX4_readRow_8 : decode cX4_readRow 8 = .ok (.iload_n 1, 1) := by decide +kernel
theorem dX4_readRow_9 : decode cX4_readRow 9 = .ok (.iconst 1, 1) := by decide +kernel
theorem dX4_readRow_10 : decode cX4_readRow 10 = .ok (.iadd, 1) := by decide +kernel
theorem dX4_readRow_11 : decode cX4_readRow 11 = .ok (.invokevirtual 209, 3) := by decide +kernel
theorem dX4_readRow_14 : decode cX4_readRow 14 = .ok (.iconst 0, 1) := by decide +kernel
theorem dX4_readRow_15 : decode cX4_readRow 15 = .ok (.istore_n 2, 1) := by decide +kernel
theorem dX4_readRow_16 : decode cX4_readRow 16 = .ok (.iload_n 2, 1) := by decide +kernel
theorem dX4_readRow_17 : decode cX4_readRow 17 = .ok (.sipush 3000, 3) := by decide +kernel
theorem dX4_readRow_20 : decode cX4_readRow 20 = .ok (.if_icmp .ge 50, 3) := by decide +kernel
theorem dX4_readRow_23 : decode cX4_readRow 23 = .ok (.aload_n 0, 1) := by decide +kernel
theorem dX4_readRow_24 : decode cX4_readRow 24 = .ok (.getfield 9, 3) := by decide +kernel
theorem dX4_readRow_27 : decode cX4_readRow 27 = .ok (.getfield 67, 3) := by decide +kernel
theorem dX4_readRow_30 : decode cX4_readRow 30 = .ok (.bipush 59, 2) := by decide +kernel
theorem dX4_readRow_32 : decode cX4_readRow 32 = .ok (.if_icmp .ne 38, 3) := by decide +kernel
theorem dX4_readRow_35 : decode cX4_readRow 35 = .ok (.aload_n 0, 1) := by decide +kernel
theorem dX4_readRow_36 : decode cX4_readRow 36 = .ok (.invokevirtual 264, 3) := by decide +kernel
theorem dX4_readRow_39 : decode cX4_readRow 39 = .ok (.aload_n 0, 1) := by decide +kernel
theorem dX4_readRow_40 : decode cX4_readRow 40 = .ok (.getfield 48, 3) := by decide +kernel
theorem dX4_readRow_43 : decode cX4_readRow 43 = .ok (.bipush 16, 2) := by decide +kernel
theorem dX4_readRow_45 : decode cX4_readRow 45 = .ok (.iconst 0, 1) := by decide +kernel
theorem dX4_readRow_46 : decode cX4_readRow 46 = .ok (.iconst 0, 1) := by decide +kernel
theorem dX4_readRow_47 : decode cX4_readRow 47 = .ok (.invokevirtual 212, 3) := by decide +kernel
theorem dX4_readRow_50 : decode cX4_readRow 50 = .ok (.aload_n 0, 1) := by decide +kernel
theorem dX4_readRow_51 : decode cX4_readRow 51 = .ok (.getfield 9, 3) := by decide +kernel
theorem dX4_readRow_54 : decode cX4_readRow 54 = .ok (.invokevirtual 99, 3) := by decide +kernel
theorem dX4_readRow_57 : decode cX4_readRow 57 = .ok (.aload_n 0, 1) := by decide +kernel
theorem dX4_readRow_58 : decode cX4_readRow 58 = .ok (.iload_n 1, 1) := by decide +kernel
theorem dX4_readRow_59 : decode cX4_readRow 59 = .ok (.iconst 1, 1) := by decide +kernel
theorem dX4_readRow_60 : decode cX4_readRow 60 = .ok (.iadd, 1) := by decide +kernel
theorem dX4_readRow_61 : decode cX4_readRow 61 = .ok (.invokevirtual 209, 3) := by decide +kernel
theorem dX4_readRow_64 : decode cX4_readRow 64 = .ok (.iinc 2 1, 3) := by decide +kernel
theorem dX4_readRow_67 : decode cX4_readRow 67 = .ok (.goto (-51), 3) := by decide +kernel
theorem dX4_readRow_70 : decode cX4_readRow 70 = .ok (.aload_n 0, 1) := by decide +kernel
theorem dX4_readRow_71 : decode cX4_readRow 71 = .ok (.bipush 125, 2) := by decide +kernel
theorem dX4_readRow_73 : decode cX4_readRow 73 = .ok (.invokevirtual 118, 3) := by decide +kernel
theorem dX4_readRow_76 : decode cX4_readRow 76 = .ok (.return_, 1) := by decide +kernel
theorem dX4_readAsking_0 : decode cX4_readAsking 0 = .ok (.aload_n 0, 1) := by decide +kernel
theorem dX4_readAsking_1 : decode cX4_readAsking 1 = .ok (.invokevirtual 264, 3) := by decide +kernel
theorem dX4_readAsking_4 : decode cX4_readAsking 4 = .ok (.aload_n 0, 1) := by decide +kernel
theorem dX4_readAsking_5 : decode cX4_readAsking 5 = .ok (.aload_n 0, 1) := by decide +kernel
theorem dX4_readAsking_6 : decode cX4_readAsking 6 = .ok (.getfield 19, 3) := by decide +kernel
theorem dX4_readAsking_9 : decode cX4_readAsking 9 = .ok (.getfield 361, 3) := by decide +kernel
theorem dX4_readAsking_12 : decode cX4_readAsking 12 = .ok (.bipush 24, 2) := by decide +kernel
theorem dX4_readAsking_14 : decode cX4_readAsking 14 = .ok (.if_icmp .ge 7, 3) := by decide +kernel
theorem dX4_readAsking_17 : decode cX4_readAsking 17 = .ok (.iconst 1, 1) := by decide +kernel
theorem dX4_readAsking_18 : decode cX4_readAsking 18 = .ok (.goto 4, 3) := by decide +kernel
theorem dX4_readAsking_21 : decode cX4_readAsking 21 = .ok (.iconst 0, 1) := by decide +kernel
theorem dX4_readAsking_22 : decode cX4_readAsking 22 = .ok (.invokevirtual 72, 3) := by decide +kernel
theorem dX4_readAsking_25 : decode cX4_readAsking 25 = .ok (.aload_n 0, 1) := by decide +kernel
theorem dX4_readAsking_26 : decode cX4_readAsking 26 = .ok (.getfield 19, 3) := by decide +kernel
theorem dX4_readAsking_29 : decode cX4_readAsking 29 = .ok (.getfield 361, 3) := by decide +kernel
theorem dX4_readAsking_32 : decode cX4_readAsking 32 = .ok (.istore_n 3, 1) := by decide +kernel
theorem dX4_readAsking_33 : decode cX4_readAsking 33 = .ok (.aload_n 0, 1) := by decide +kernel
theorem dX4_readAsking_34 : decode cX4_readAsking 34 = .ok (.getfield 19, 3) := by decide +kernel
theorem dX4_readAsking_37 : decode cX4_readAsking 37 = .ok (.invokevirtual 364, 3) := by decide +kernel
theorem dX4_readAsking_40 : decode cX4_readAsking 40 = .ok (.aload_n 0, 1) := by decide +kernel
theorem dX4_readAsking_41 : decode cX4_readAsking 41 = .ok (.getfield 9, 3) := by decide +kernel
theorem dX4_readAsking_44 : decode cX4_readAsking 44 = .ok (.invokevirtual 99, 3) := by decide +kernel
theorem dX4_readAsking_47 : decode cX4_readAsking 47 = .ok (.aload_n 0, 1) := by decide +kernel
theorem dX4_readAsking_48 : decode cX4_readAsking 48 = .ok (.invokevirtual 126, 3) := by decide +kernel
theorem dX4_readAsking_51 : decode cX4_readAsking 51 = .ok (.aload_n 0, 1) := by decide +kernel
theorem dX4_readAsking_52 : decode cX4_readAsking 52 = .ok (.getfield 26, 3) := by decide +kernel
theorem dX4_readAsking_55 : decode cX4_readAsking 55 = .ok (.aload_n 0, 1) := by decide +kernel
theorem dX4_readAsking_56 : decode cX4_readAsking 56 = .ok (.getfield 9, 3) := by decide +kernel
theorem dX4_readAsking_59 : decode cX4_readAsking 59 = .ok (.getfield 129, 3) := by decide +kernel
theorem dX4_readAsking_62 : decode cX4_readAsking 62 = .ok (.putfield 133, 3) := by decide +kernel
theorem dX4_readAsking_65 : decode cX4_readAsking 65 = .ok (.aload_n 0, 1) := by decide +kernel
theorem dX4_readAsking_66 : decode cX4_readAsking 66 = .ok (.getfield 9, 3) := by decide +kernel
theorem dX4_readAsking_69 : decode cX4_readAsking 69 = .ok (.invokevirtual 99, 3) := by decide +kernel
theorem dX4_readAsking_72 : decode cX4_readAsking 72 = .ok (.aload_n 0, 1) := by decide +kernel
theorem dX4_readAsking_73 : decode cX4_readAsking 73 = .ok (.iconst 1, 1) := by decide +kernel
theorem dX4_readAsking_74 : decode cX4_readAsking 74 = .ok (.invokevirtual 110, 3) := by decide +kernel
theorem dX4_readAsking_77 : decode cX4_readAsking 77 = .ok (.aload_n 0, 1) := by decide +kernel
theorem dX4_readAsking_78 : decode cX4_readAsking 78 = .ok (.getfield 19, 3) := by decide +kernel
theorem dX4_readAsking_81 : decode cX4_readAsking 81 = .ok (.iload_n 3, 1) := by decide +kernel
theorem dX4_readAsking_82 : decode cX4_readAsking 82 = .ok (.aload_n 0, 1) := by decide +kernel
theorem dX4_readAsking_83 : decode cX4_readAsking 83 = .ok (.getfield 26, 3) := by decide +kernel
theorem dX4_readAsking_86 : decode cX4_readAsking 86 = .ok (.invokevirtual 367, 3) := by decide +kernel
theorem dX4_readAsking_89 : decode cX4_readAsking 89 = .ok (.aload_n 0, 1) := by decide +kernel
theorem dX4_readAsking_90 : decode cX4_readAsking 90 = .ok (.getfield 9, 3) := by decide +kernel
theorem dX4_readAsking_93 : decode cX4_readAsking 93 = .ok (.getfield 67, 3) := by decide +kernel
theorem dX4_readAsking_96 : decode cX4_readAsking 96 = .ok (.bipush 91, 2) := by decide +kernel
theorem dX4_readAsking_98 : decode cX4_readAsking 98 = .ok (.if_icmp .ne 31, 3) := by decide +kernel
theorem dX4_readAsking_101 : decode cX4_readAsking 101 = .ok (.aload_n 0, 1) := by decide +kernel
theorem dX4_readAsking_102 : decode cX4_readAsking 102 = .ok (.getfield 19, 3) := by decide +kernel
theorem dX4_readAsking_105 : decode cX4_readAsking 105 = .ok (.iload_n 3, 1) := by decide +kernel
theorem dX4_readAsking_106 : decode cX4_readAsking 106 = .ok (.invokevirtual 370, 3) := by decide +kernel
theorem dX4_readAsking_109 : decode cX4_readAsking 109 = .ok (.aload_n 0, 1) := by decide +kernel
theorem dX4_readAsking_110 : decode cX4_readAsking 110 = .ok (.getfield 9, 3) := by decide +kernel
theorem dX4_readAsking_113 : decode cX4_readAsking 113 = .ok (.invokevirtual 99, 3) := by decide +kernel
theorem dX4_readAsking_116 : decode cX4_readAsking 116 = .ok (.aload_n 0, 1) := by decide +kernel
theorem dX4_readAsking_117 : decode cX4_readAsking 117 = .ok (.iload_n 2, 1) := by decide +kernel
theorem dX4_readAsking_118 : decode cX4_readAsking 118 = .ok (.iconst 1, 1) := by decide +kernel
theorem dX4_readAsking_119 : decode cX4_readAsking 119 = .ok (.iadd, 1) := by decide +kernel
theorem dX4_readAsking_120 : decode cX4_readAsking 120 = .ok (.invokevirtual 209, 3) := by decide +kernel
theorem dX4_readAsking_123 : decode cX4_readAsking 123 = .ok (.aload_n 0, 1) := by decide +kernel
theorem dX4_readAsking_124 : decode cX4_readAsking 124 = .ok (.bipush 93, 2) := by decide +kernel
theorem dX4_readAsking_126 : decode cX4_readAsking 126 = .ok (.invokevirtual 118, 3) := by decide +kernel
theorem dX4_readAsking_129 : decode cX4_readAsking 129 = .ok (.aload_n 0, 1) := by decide +kernel
theorem dX4_readAsking_130 : decode cX4_readAsking 130 = .ok (.getfield 48, 3) := by decide +kernel
theorem dX4_readAsking_133 : decode cX4_readAsking 133 = .ok (.iload_n 1, 1) := by decide +kernel
theorem dX4_readAsking_134 : decode cX4_readAsking 134 = .ok (.iload_n 3, 1) := by decide +kernel
theorem dX4_readAsking_135 : decode cX4_readAsking 135 = .ok (.iconst 0, 1) := by decide +kernel
theorem dX4_readAsking_136 : decode cX4_readAsking 136 = .ok (.invokevirtual 212, 3) := by decide +kernel
theorem dX4_readAsking_139 : decode cX4_readAsking 139 = .ok (.return_, 1) := by decide +kernel
theorem dX5_take_0 : decode cX5_take 0 = .ok (.aload_n 0, 1) := by decide +kernel
theorem dX5_take_1 : decode cX5_take 1 = .ok (.aload_n 1, 1) := by decide +kernel
theorem dX5_take_2 : decode cX5_take 2 = .ok (.getfield 15, 3) := by decide +kernel
theorem dX5_take_5 : decode cX5_take 5 = .ok (.putfield 15, 3) := by decide +kernel
theorem dX5_take_8 : decode cX5_take 8 = .ok (.aload_n 0, 1) := by decide +kernel
theorem dX5_take_9 : decode cX5_take 9 = .ok (.aload_n 1, 1) := by decide +kernel
theorem dX5_take_10 : decode cX5_take 10 = .ok (.getfield 19, 3) := by decide +kernel
theorem dX5_take_13 : decode cX5_take 13 = .ok (.putfield 19, 3) := by decide +kernel
theorem dX5_take_16 : decode cX5_take 16 = .ok (.aload_n 0, 1) := by decide +kernel
theorem dX5_take_17 : decode cX5_take 17 = .ok (.aload_n 1, 1) := by decide +kernel
theorem dX5_take_18 : decode cX5_take 18 = .ok (.getfield 23, 3) := by decide +kernel
theorem dX5_take_21 : decode cX5_take 21 = .ok (.putfield 23, 3) := by decide +kernel
theorem dX5_take_24 : decode cX5_take 24 = .ok (.iconst 0, 1) := by decide +kernel
theorem dX5_take_25 : decode cX5_take 25 = .ok (.istore_n 2, 1) := by decide +kernel
theorem dX5_take_26 : decode cX5_take 26 = .ok (.iload_n 2, 1) := by decide +kernel
theorem dX5_take_27 : decode cX5_take 27 = .ok (.iconst 5, 1) := by decide +kernel
theorem dX5_take_28 : decode cX5_take 28 = .ok (.if_icmp .ge 21, 3) := by decide +kernel
theorem dX5_take_31 : decode cX5_take 31 = .ok (.aload_n 0, 1) := by decide +kernel
theorem dX5_take_32 : decode cX5_take 32 = .ok (.getfield 9, 3) := by decide +kernel
theorem dX5_take_35 : decode cX5_take 35 = .ok (.iload_n 2, 1) := by decide +kernel
theorem dX5_take_36 : decode cX5_take 36 = .ok (.aload_n 1, 1) := by decide +kernel
theorem dX5_take_37 : decode cX5_take 37 = .ok (.getfield 9, 3) := by decide +kernel
theorem dX5_take_40 : decode cX5_take 40 = .ok (.iload_n 2, 1) := by decide +kernel
theorem dX5_take_41 : decode cX5_take 41 = .ok (.laload, 1) := by decide +kernel
theorem dX5_take_42 : decode cX5_take 42 = .ok (.lastore, 1) := by decide +kernel
theorem dX5_take_43 : decode cX5_take 43 = .ok (.iinc 2 1, 3) := by decide +kernel
theorem dX5_take_46 : decode cX5_take 46 = .ok (.goto (-20), 3) := by decide +kernel
theorem dX5_take_49 : decode cX5_take 49 = .ok (.return_, 1) := by decide +kernel
theorem dX5_addStep_0 : decode cX5_addStep 0 = .ok (.aload_n 0, 1) := by decide +kernel
theorem dX5_addStep_1 : decode cX5_addStep 1 = .ok (.getfield 23, 3) := by decide +kernel
theorem dX5_addStep_4 : decode cX5_addStep 4 = .ok (.ifCond .lt 31, 3) := by decide +kernel
theorem dX5_addStep_7 : decode cX5_addStep 7 = .ok (.aload_n 0, 1) := by decide +kernel
theorem dX5_addStep_8 : decode cX5_addStep 8 = .ok (.getfield 23, 3) := by decide +kernel
theorem dX5_addStep_11 : decode cX5_addStep 11 = .ok (.iconst 5, 1) := by decide +kernel
theorem dX5_addStep_12 : decode cX5_addStep 12 = .ok (.if_icmp .ge 23, 3) := by decide +kernel
theorem dX5_addStep_15 : decode cX5_addStep 15 = .ok (.aload_n 0, 1) := by decide +kernel
theorem dX5_addStep_16 : decode cX5_addStep 16 = .ok (.getfield 9, 3) := by decide +kernel
theorem dX5_addStep_19 : decode cX5_addStep 19 = .ok (.aload_n 0, 1) := by decide +kernel
theorem dX5_addStep_20 : decode cX5_addStep 20 = .ok (.getfield 23, 3) := by decide +kernel
theorem dX5_addStep_23 : decode cX5_addStep 23 = .ok (.lload_n 1, 1) := by decide +kernel
theorem dX5_addStep_24 : decode cX5_addStep 24 = .ok (.lastore, 1) := by decide +kernel
theorem dX5_addStep_25 : decode cX5_addStep 25 = .ok (.aload_n 0, 1) := by decide +kernel
theorem dX5_addStep_26 : decode cX5_addStep 26 = .ok (.dup, 1) := by decide +kernel
theorem dX5_addStep_27 : decode cX5_addStep 27 = .ok (.getfield 23, 3) := by decide +kernel
theorem dX5_addStep_30 : decode cX5_addStep 30 = .ok (.iconst 1, 1) := by decide +kernel
theorem dX5_addStep_31 : decode cX5_addStep 31 = .ok (.iadd, 1) := by decide +kernel
theorem dX5_addStep_32 : decode cX5_addStep 32 = .ok (.putfield 23, 3) := by decide +kernel
theorem dX5_addStep_35 : decode cX5_addStep 35 = .ok (.return_, 1) := by decide +kernel
theorem dX5_addDigits_0 : decode cX5_addDigits 0 = .ok (.lconst 0, 1) := by decide +kernel
theorem dX5_addDigits_1 : decode cX5_addDigits 1 = .ok (.lstore_n 2, 1) := by decide +kernel
theorem dX5_addDigits_2 : decode cX5_addDigits 2 = .ok (.bipush 100, 2) := by decide +kernel
theorem dX5_addDigits_4 : decode cX5_addDigits 4 = .ok (.istore 4, 2) := by decide +kernel
theorem dX5_addDigits_6 : decode cX5_addDigits 6 = .ok (.iload 4, 2) := by decide +kernel
theorem dX5_addDigits_8 : decode cX5_addDigits 8 = .ok (.ifCond .le 40, 3) := by decide +kernel
theorem dX5_addDigits_11 : decode cX5_addDigits 11 = .ok (.iload_n 1, 1) := by decide +kernel
theorem dX5_addDigits_12 : decode cX5_addDigits 12 = .ok (.iload 4, 2) := by decide +kernel
theorem dX5_addDigits_14 : decode cX5_addDigits 14 = .ok (.if_icmp .ge 9, 3) := by decide +kernel
theorem dX5_addDigits_17 : decode cX5_addDigits 17 = .ok (.iload 4, 2) := by decide +kernel
theorem dX5_addDigits_19 : decode cX5_addDigits 19 = .ok (.iconst 1, 1) := by decide +kernel
theorem dX5_addDigits_20 : decode cX5_addDigits 20 = .ok (.if_icmp .ne 18, 3) := by decide +kernel
theorem dX5_addDigits_23 : decode cX5_addDigits 23 = .ok (.lload_n 2, 1) := by decide +kernel
theorem dX5_addDigits_24 : decode cX5_addDigits 24 = .ok (.bipush 48, 2) := by decide +kernel
theorem dX5_addDigits_26 : decode cX5_addDigits 26 = .ok (.iload_n 1, 1) := by decide +kernel
theorem dX5_addDigits_27 : decode cX5_addDigits 27 = .ok (.iload 4, 2) := by decide +kernel
theorem dX5_addDigits_29 : decode cX5_addDigits 29 = .ok (.idiv, 1) := by decide +kernel
theorem dX5_addDigits_30 : decode cX5_addDigits 30 = .ok (.bipush 10, 2) := by decide +kernel
theorem dX5_addDigits_32 : decode cX5_addDigits 32 = .ok (.irem, 1) := by decide +kernel
theorem dX5_addDigits_33 : decode cX5_addDigits 33 = .ok (.iadd, 1) := by decide +kernel
theorem dX5_addDigits_34 : decode cX5_addDigits 34 = .ok (.invokestatic 26, 3) := by decide +kernel
theorem dX5_addDigits_37 : decode cX5_addDigits 37 = .ok (.lstore_n 2, 1) := by decide +kernel
theorem dX5_addDigits_38 : decode cX5_addDigits 38 = .ok (.iload 4, 2) := by decide +kernel
theorem dX5_addDigits_40 : decode cX5_addDigits 40 = .ok (.bipush 10, 2) := by decide +kernel
theorem dX5_addDigits_42 : decode cX5_addDigits 42 = .ok (.idiv, 1) := by decide +kernel
theorem dX5_addDigits_43 : decode cX5_addDigits 43 = .ok (.istore 4, 2) := by decide +kernel
theorem dX5_addDigits_45 : decode cX5_addDigits 45 = .ok (.goto (-39), 3) := by decide +kernel
theorem dX5_addDigits_48 : decode cX5_addDigits 48 = .ok (.aload_n 0, 1) := by decide +kernel
theorem dX5_addDigits_49 : decode cX5_addDigits 49 = .ok (.lload_n 2, 1) := by decide +kernel
theorem dX5_addDigits_50 : decode cX5_addDigits 50 = .ok (.invokevirtual 32, 3) := by decide +kernel
theorem dX5_addDigits_53 : decode cX5_addDigits 53 = .ok (.return_, 1) := by decide +kernel
theorem dX5_covers_0 : decode cX5_covers 0 = .ok (.aload_n 1, 1) := by decide +kernel
theorem dX5_covers_1 : decode cX5_covers 1 = .ok (.getfield 23, 3) := by decide +kernel
theorem dX5_covers_4 : decode cX5_covers 4 = .ok (.aload_n 0, 1) := by decide +kernel
theorem dX5_covers_5 : decode cX5_covers 5 = .ok (.getfield 23, 3) := by decide +kernel
theorem dX5_covers_8 : decode cX5_covers 8 = .ok (.isub, 1) := by decide +kernel
theorem dX5_covers_9 : decode cX5_covers 9 = .ok (.istore_n 2, 1) := by decide +kernel
theorem dX5_covers_10 : decode cX5_covers 10 = .ok (.aload_n 0, 1) := by decide +kernel
theorem dX5_covers_11 : decode cX5_covers 11 = .ok (.getfield 19, 3) := by decide +kernel
theorem dX5_covers_14 : decode cX5_covers 14 = .ok (.ifCond .ne 15, 3) := by decide +kernel
theorem dX5_covers_17 : decode cX5_covers 17 = .ok (.iload_n 2, 1) := by decide +kernel
theorem dX5_covers_18 : decode cX5_covers 18 = .ok (.ifCond .ne 7, 3) := by decide +kernel
theorem dX5_covers_21 : decode cX5_covers 21 = .ok (.iconst 1, 1) := by decide +kernel
theorem dX5_covers_22 : decode cX5_covers 22 = .ok (.goto 38, 3) := by decide +kernel
theorem dX5_covers_25 : decode cX5_covers 25 = .ok (.iconst 0, 1) := by decide +kernel
theorem dX5_covers_26 : decode cX5_covers 26 = .ok (.goto 34, 3) := by decide +kernel
theorem dX5_covers_29 : decode cX5_covers 29 = .ok (.aload_n 0, 1) := by decide +kernel
theorem dX5_covers_30 : decode cX5_covers 30 = .ok (.getfield 19, 3) := by decide +kernel
theorem dX5_covers_33 : decode cX5_covers 33 = .ok (.iconst 1, 1) := by decide +kernel
theorem dX5_covers_34 : decode cX5_covers 34 = .ok (.if_icmp .ne 16, 3) := by decide +kernel
theorem dX5_covers_37 : decode cX5_covers 37 = .ok (.iload_n 2, 1) := by decide +kernel
theorem dX5_covers_38 : decode cX5_covers 38 = .ok (.iconst 1, 1) := by decide +kernel
theorem dX5_covers_39 : decode cX5_covers 39 = .ok (.if_icmp .ne 7, 3) := by decide +kernel
theorem dX5_covers_42 : decode cX5_covers 42 = .ok (.iconst 1, 1) := by decide +kernel
theorem dX5_covers_43 : decode cX5_covers 43 = .ok (.goto 17, 3) := by decide +kernel
theorem dX5_covers_46 : decode cX5_covers 46 = .ok (.iconst 0, 1) := by decide +kernel
theorem dX5_covers_47 : decode cX5_covers 47 = .ok (.goto 13, 3) := by decide +kernel
theorem dX5_covers_50 : decode cX5_covers 50 = .ok (.iload_n 2, 1) := by decide +kernel
theorem dX5_covers_51 : decode cX5_covers 51 = .ok (.iconst 1, 1) := by decide +kernel
theorem dX5_covers_52 : decode cX5_covers 52 = .ok (.if_icmp .lt 7, 3) := by decide +kernel
theorem dX5_covers_55 : decode cX5_covers 55 = .ok (.iconst 1, 1) := by decide +kernel
theorem dX5_covers_56 : decode cX5_covers 56 = .ok (.goto 4, 3) := by decide +kernel
theorem dX5_covers_59 : decode cX5_covers 59 = .ok (.iconst 0, 1) := by decide +kernel
theorem dX5_covers_60 : decode cX5_covers 60 = .ok (.istore_n 3, 1) := by decide +kernel
theorem dX5_covers_61 : decode cX5_covers 61 = .ok (.iconst 0, 1) := by decide +kernel
theorem dX5_covers_62 : decode cX5_covers 62 = .ok (.istore 4, 2) := by decide +kernel
theorem dX5_covers_64 : decode cX5_covers 64 = .ok (.iload_n 3, 1) := by decide +kernel
theorem dX5_covers_65 : decode cX5_covers 65 = .ok (.ifCond .eq 48, 3) := by decide +kernel
theorem dX5_covers_68 : decode cX5_covers 68 = .ok (.iload 4, 2) := by decide +kernel
theorem dX5_covers_70 : decode cX5_covers 70 = .ok (.aload_n 0, 1) := by decide +kernel
theorem dX5_covers_71 : decode cX5_covers 71 = .ok (.getfield 23, 3) := by decide +kernel
theorem dX5_covers_74 : decode cX5_covers 74 = .ok (.if_icmp .ge 39, 3) := by decide +kernel
theorem dX5_covers_77 : decode cX5_covers 77 = .ok (.iload 4, 2) := by decide +kernel
theorem dX5_covers_79 : decode cX5_covers 79 = .ok (.iconst 5, 1) := by decide +kernel
theorem dX5_covers_80 : decode cX5_covers 80 = .ok (.if_icmp .ge 33, 3) := by decide +kernel
theorem dX5_covers_83 : decode cX5_covers 83 = .ok (.aload_n 0, 1) := by decide +kernel
theorem dX5_covers_84 : decode cX5_covers 84 = .ok (.getfield 9, 3) := by decide +kernel
theorem dX5_covers_87 : decode cX5_covers 87 = .ok (.iload 4, 2) := by decide +kernel
theorem dX5_covers_89 : decode cX5_covers 89 = .ok (.laload, 1) := by decide +kernel
theorem dX5_covers_90 : decode cX5_covers 90 = .ok (.aload_n 1, 1) := by decide +kernel
theorem dX5_covers_91 : decode cX5_covers 91 = .ok (.getfield 9, 3) := by decide +kernel
theorem dX5_covers_94 : decode cX5_covers 94 = .ok (.iload 4, 2) := by decide +kernel
theorem dX5_covers_96 : decode cX5_covers 96 = .ok (.laload, 1) := by decide +kernel
theorem dX5_covers_97 : decode cX5_covers 97 = .ok (.lcmp, 1) := by decide +kernel
theorem dX5_covers_98 : decode cX5_covers 98 = .ok (.ifCond .ne 7, 3) := by decide +kernel
theorem dX5_covers_101 : decode cX5_covers 101 = .ok (.iconst 1, 1) := by decide +kernel
theorem dX5_covers_102 : decode cX5_covers 102 = .ok (.goto 4, 3) := by decide +kernel
theorem dX5_covers_105 : decode cX5_covers 105 = .ok (.iconst 0, 1) := by decide +kernel
theorem dX5_covers_106 : decode cX5_covers 106 = .ok (.istore_n 3, 1) := by decide +kernel
theorem dX5_covers_107 : decode cX5_covers 107 = .ok (.iinc 4 1, 3) := by decide +kernel
theorem dX5_covers_110 : decode cX5_covers 110 = .ok (.goto (-46), 3) := by decide +kernel
theorem dX5_covers_113 : decode cX5_covers 113 = .ok (.iload_n 3, 1) := by decide +kernel
theorem dX5_covers_114 : decode cX5_covers 114 = .ok (.ireturn, 1) := by decide +kernel
theorem dX7_clear_0 : decode cX7_clear 0 = .ok (.aload_n 0, 1) := by decide +kernel
theorem dX7_clear_1 : decode cX7_clear 1 = .ok (.iload_n 1, 1) := by decide +kernel
theorem dX7_clear_2 : decode cX7_clear 2 = .ok (.putfield 39, 3) := by decide +kernel
theorem dX7_clear_5 : decode cX7_clear 5 = .ok (.aload_n 0, 1) := by decide +kernel
theorem dX7_clear_6 : decode cX7_clear 6 = .ok (.iconst 0, 1) := by decide +kernel
theorem dX7_clear_7 : decode cX7_clear 7 = .ok (.putfield 43, 3) := by decide +kernel
theorem dX7_clear_10 : decode cX7_clear 10 = .ok (.aload_n 0, 1) := by decide +kernel
theorem dX7_clear_11 : decode cX7_clear 11 = .ok (.iconst 0, 1) := by decide +kernel
theorem dX7_clear_12 : decode cX7_clear 12 = .ok (.putfield 46, 3) := by decide +kernel
theorem dX7_clear_15 : decode cX7_clear 15 = .ok (.aload_n 0, 1) := by decide +kernel
theorem dX7_clear_16 : decode cX7_clear 16 = .ok (.iconst 0, 1) := by decide +kernel
theorem dX7_clear_17 : decode cX7_clear 17 = .ok (.putfield 49, 3) := by decide +kernel
theorem dX7_clear_20 : decode cX7_clear 20 = .ok (.aload_n 0, 1) := by decide +kernel
theorem dX7_clear_21 : decode cX7_clear 21 = .ok (.iconst (-1), 1) := by decide +kernel
theorem dX7_clear_22 : decode cX7_clear 22 = .ok (.putfield 52, 3) := by decide +kernel
theorem dX7_clear_25 : decode cX7_clear 25 = .ok (.aload_n 0, 1) := by decide +kernel
theorem dX7_clear_26 : decode cX7_clear 26 = .ok (.ldc2_w 57, 3) := by decide +kernel
theorem dX7_clear_29 : decode cX7_clear 29 = .ok (.putfield 59, 3) := by decide +kernel
theorem dX7_clear_32 : decode cX7_clear 32 = .ok (.aload_n 0, 1) := by decide +kernel
theorem dX7_clear_33 : decode cX7_clear 33 = .ok (.getfield 35, 3) := by decide +kernel
theorem dX7_clear_36 : decode cX7_clear 36 = .ok (.iconst 0, 1) := by decide +kernel
theorem dX7_clear_37 : decode cX7_clear 37 = .ok (.invokevirtual 63, 3) := by decide +kernel
theorem dX7_clear_40 : decode cX7_clear 40 = .ok (.return_, 1) := by decide +kernel
theorem dX7_call_0 : decode cX7_call 0 = .ok (.aload_n 0, 1) := by decide +kernel
theorem dX7_call_1 : decode cX7_call 1 = .ok (.aload_n 1, 1) := by decide +kernel
theorem dX7_call_2 : decode cX7_call 2 = .ok (.putfield 66, 3) := by decide +kernel
theorem dX7_call_5 : decode cX7_call 5 = .ok (.aload_n 0, 1) := by decide +kernel
theorem dX7_call_6 : decode cX7_call 6 = .ok (.iload_n 2, 1) := by decide +kernel
theorem dX7_call_7 : decode cX7_call 7 = .ok (.putfield 70, 3) := by decide +kernel
theorem dX7_call_10 : decode cX7_call 10 = .ok (.aload_n 0, 1) := by decide +kernel
theorem dX7_call_11 : decode cX7_call 11 = .ok (.iload_n 3, 1) := by decide +kernel
theorem dX7_call_12 : decode cX7_call 12 = .ok (.putfield 73, 3) := by decide +kernel
theorem dX7_call_15 : decode cX7_call 15 = .ok (.aload_n 0, 1) := by decide +kernel
theorem dX7_call_16 : decode cX7_call 16 = .ok (.iload 4, 2) := by decide +kernel
theorem dX7_call_18 : decode cX7_call 18 = .ok (.putfield 76, 3) := by decide +kernel
theorem dX7_call_21 : decode cX7_call 21 = .ok (.return_, 1) := by decide +kernel
theorem dX7_enter_0 : decode cX7_enter 0 = .ok (.aload_n 0, 1) := by decide +kernel
theorem dX7_enter_1 : decode cX7_enter 1 = .ok (.getfield 66, 3) := by decide +kernel
theorem dX7_enter_4 : decode cX7_enter 4 = .ok (.ifnull 19, 3) := by decide +kernel
theorem dX7_enter_7 : decode cX7_enter 7 = .ok (.aload_n 0, 1) := by decide +kernel
theorem dX7_enter_8 : decode cX7_enter 8 = .ok (.getfield 43, 3) := by decide +kernel
theorem dX7_enter_11 : decode cX7_enter 11 = .ok (.ifCond .lt 12, 3) := by decide +kernel
theorem dX7_enter_14 : decode cX7_enter 14 = .ok (.aload_n 0, 1) := by decide +kernel
theorem dX7_enter_15 : decode cX7_enter 15 = .ok (.getfield 43, 3) := by decide +kernel
theorem dX7_enter_18 : decode cX7_enter 18 = .ok (.bipush 60, 2) := by decide +kernel
theorem dX7_enter_20 : decode cX7_enter 20 = .ok (.if_icmp .lt 4, 3) := by decide +kernel
theorem dX7_enter_23 : decode cX7_enter 23 = .ok (.return_, 1) := by decide +kernel
theorem dX7_enter_24 : decode cX7_enter 24 = .ok (.aload_n 0, 1) := by decide +kernel
theorem dX7_enter_25 : decode cX7_enter 25 = .ok (.getfield 9, 3) := by decide +kernel
theorem dX7_enter_28 : decode cX7_enter 28 = .ok (.aload_n 0, 1) := by decide +kernel
theorem dX7_enter_29 : decode cX7_enter 29 = .ok (.getfield 43, 3) := by decide +kernel
theorem dX7_enter_32 : decode cX7_enter 32 = .ok (.aload_n 0, 1) := by decide +kernel
theorem dX7_enter_33 : decode cX7_enter 33 = .ok (.getfield 66, 3) := by decide +kernel
theorem dX7_enter_36 : decode cX7_enter 36 = .ok (.getfield 79, 3) := by decide +kernel
theorem dX7_enter_39 : decode cX7_enter 39 = .ok (.iastore, 1) := by decide +kernel
theorem dX7_enter_40 : decode cX7_enter 40 = .ok (.aload_n 0, 1) := by decide +kernel
theorem dX7_enter_41 : decode cX7_enter 41 = .ok (.getfield 15, 3) := by decide +kernel
theorem dX7_enter_44 : decode cX7_enter 44 = .ok (.aload_n 0, 1) := by decide +kernel
theorem dX7_enter_45 : decode cX7_enter 45 = .ok (.getfield 43, 3) := by decide +kernel
theorem dX7_enter_48 : decode cX7_enter 48 = .ok (.iconst 0, 1) := by decide +kernel
theorem dX7_enter_49 : decode cX7_enter 49 = .ok (.iastore, 1) := by decide +kernel
theorem dX7_enter_50 : decode cX7_enter 50 = .ok (.aload_n 0, 1) := by decide +kernel
theorem dX7_enter_51 : decode cX7_enter 51 = .ok (.getfield 18, 3) := by decide +kernel
theorem dX7_enter_54 : decode cX7_enter 54 = .ok (.aload_n 0, 1) := by decide +kernel
theorem dX7_enter_55 : decode cX7_enter 55 = .ok (.getfield 43, 3) := by decide +kernel
theorem dX7_enter_58 : decode cX7_enter 58 = .ok (.aload_n 0, 1) := by decide +kernel
theorem dX7_enter_59 : decode cX7_enter 59 = .ok (.getfield 70, 3) := by decide +kernel
theorem dX7_enter_62 : decode cX7_enter 62 = .ok (.iastore, 1) := by decide +kernel
theorem dX7_enter_63 : decode cX7_enter 63 = .ok (.aload_n 0, 1) := by decide +kernel
theorem dX7_enter_64 : decode cX7_enter 64 = .ok (.getfield 21, 3) := by decide +kernel
theorem dX7_enter_67 : decode cX7_enter 67 = .ok (.aload_n 0, 1) := by decide +kernel
theorem dX7_enter_68 : decode cX7_enter 68 = .ok (.getfield 43, 3) := by decide +kernel
theorem dX7_enter_71 : decode cX7_enter 71 = .ok (.aload_n 0, 1) := by decide +kernel
theorem dX7_enter_72 : decode cX7_enter 72 = .ok (.getfield 73, 3) := by decide +kernel
theorem dX7_enter_75 : decode cX7_enter 75 = .ok (.iastore, 1) := by decide +kernel
theorem dX7_enter_76 : decode cX7_enter 76 = .ok (.aload_n 0, 1) := by decide +kernel
theorem dX7_enter_77 : decode cX7_enter 77 = .ok (.getfield 24, 3) := by decide +kernel
theorem dX7_enter_80 : decode cX7_enter 80 = .ok (.aload_n 0, 1) := by decide +kernel
theorem dX7_enter_81 : decode cX7_enter 81 = .ok (.getfield 43, 3) := by decide +kernel
theorem dX7_enter_84 : decode cX7_enter 84 = .ok (.iload_n 1, 1) := by decide +kernel
theorem dX7_enter_85 : decode cX7_enter 85 = .ok (.iastore, 1) := by decide +kernel
theorem dX7_enter_86 : decode cX7_enter 86 = .ok (.aload_n 0, 1) := by decide +kernel
theorem dX7_enter_87 : decode cX7_enter 87 = .ok (.getfield 27, 3) := by decide +kernel
theorem dX7_enter_90 : decode cX7_enter 90 = .ok (.aload_n 0, 1) := by decide +kernel
theorem dX7_enter_91 : decode cX7_enter 91 = .ok (.getfield 43, 3) := by decide +kernel
theorem dX7_enter_94 : decode cX7_enter 94 = .ok (.iload_n 2, 1) := by decide +kernel
theorem dX7_enter_95 : decode cX7_enter 95 = .ok (.iastore, 1) := by decide +kernel
theorem dX7_enter_96 : decode cX7_enter 96 = .ok (.aload_n 0, 1) := by decide +kernel
theorem dX7_enter_97 : decode cX7_enter 97 = .ok (.dup, 1) := by decide +kernel
theorem dX7_enter_98 : decode cX7_enter 98 = .ok (.getfield 43, 3) := by decide +kernel
theorem dX7_enter_101 : decode cX7_enter 101 = .ok (.iconst 1, 1) := by decide +kernel
theorem dX7_enter_102 : decode cX7_enter 102 = .ok (.iadd, 1) := by decide +kernel
theorem dX7_enter_103 : decode cX7_enter 103 = .ok (.putfield 43, 3) := by decide +kernel
theorem dX7_enter_106 : decode cX7_enter 106 = .ok (.aload_n 0, 1) := by decide +kernel
theorem dX7_enter_107 : decode cX7_enter 107 = .ok (.dup, 1) := by decide +kernel
theorem dX7_enter_108 : decode cX7_enter 108 = .ok (.getfield 46, 3) := by decide +kernel
theorem dX7_enter_111 : decode cX7_enter 111 = .ok (.iconst 1, 1) := by decide +kernel
theorem dX7_enter_112 : decode cX7_enter 112 = .ok (.iadd, 1) := by decide +kernel
theorem dX7_enter_113 : decode cX7_enter 113 = .ok (.putfield 46, 3) := by decide +kernel
theorem dX7_enter_116 : decode cX7_enter 116 = .ok (.aload_n 0, 1) := by decide +kernel
theorem dX7_enter_117 : decode cX7_enter 117 = .ok (.getfield 35, 3) := by decide +kernel
theorem dX7_enter_120 : decode cX7_enter 120 = .ok (.getfield 82, 3) := by decide +kernel
theorem dX7_enter_123 : decode cX7_enter 123 = .ok (.istore_n 3, 1) := by decide +kernel
theorem dX7_enter_124 : decode cX7_enter 124 = .ok (.iload_n 3, 1) := by decide +kernel
theorem dX7_enter_125 : decode cX7_enter 125 = .ok (.aload_n 0, 1) := by decide +kernel
theorem dX7_enter_126 : decode cX7_enter 126 = .ok (.getfield 70, 3) := by decide +kernel
theorem dX7_enter_129 : decode cX7_enter 129 = .ok (.aload_n 0, 1) := by decide +kernel
theorem dX7_enter_130 : decode cX7_enter 130 = .ok (.getfield 66, 3) := by decide +kernel
theorem dX7_enter_133 : decode cX7_enter 133 = .ok (.invokevirtual 85, 3) := by decide +kernel
theorem dX7_enter_136 : decode cX7_enter 136 = .ok (.iadd, 1) := by decide +kernel
theorem dX7_enter_137 : decode cX7_enter 137 = .ok (.if_icmp .ge 19, 3) := by decide +kernel
theorem dX7_enter_140 : decode cX7_enter 140 = .ok (.aload_n 0, 1) := by decide +kernel
theorem dX7_enter_141 : decode cX7_enter 141 = .ok (.getfield 35, 3) := by decide +kernel
theorem dX7_enter_144 : decode cX7_enter 144 = .ok (.ldc2_w 57, 3) := by decide +kernel
theorem dX7_enter_147 : decode cX7_enter 147 = .ok (.invokevirtual 89, 3) := by decide +kernel
theorem dX7_enter_150 : decode cX7_enter 150 = .ok (.iinc 3 1, 3) := by decide +kernel
theorem dX7_enter_153 : decode cX7_enter 153 = .ok (.goto (-29), 3) := by decide +kernel
theorem dX7_enter_156 : decode cX7_enter 156 = .ok (.return_, 1) := by decide +kernel
theorem dX7_leave_0 : decode cX7_leave 0 = .ok (.aload_n 0, 1) := by decide +kernel
theorem dX7_leave_1 : decode cX7_leave 1 = .ok (.getfield 43, 3) := by decide +kernel
theorem dX7_leave_4 : decode cX7_leave 4 = .ok (.ifCond .le 38, 3) := by decide +kernel
theorem dX7_leave_7 : decode cX7_leave 7 = .ok (.aload_n 0, 1) := by decide +kernel
theorem dX7_leave_8 : decode cX7_leave 8 = .ok (.getfield 43, 3) := by decide +kernel
theorem dX7_leave_11 : decode cX7_leave 11 = .ok (.bipush 60, 2) := by decide +kernel
theorem dX7_leave_13 : decode cX7_leave 13 = .ok (.if_icmp .gt 29, 3) := by decide +kernel
theorem dX7_leave_16 : decode cX7_leave 16 = .ok (.aload_n 0, 1) := by decide +kernel
theorem dX7_leave_17 : decode cX7_leave 17 = .ok (.dup, 1) := by decide +kernel
theorem dX7_leave_18 : decode cX7_leave 18 = .ok (.getfield 43, 3) := by decide +kernel
theorem dX7_leave_21 : decode cX7_leave 21 = .ok (.iconst 1, 1) := by decide +kernel
theorem dX7_leave_22 : decode cX7_leave 22 = .ok (.isub, 1) := by decide +kernel
theorem dX7_leave_23 : decode cX7_leave 23 = .ok (.putfield 43, 3) := by decide +kernel
theorem dX7_leave_26 : decode cX7_leave 26 = .ok (.aload_n 0, 1) := by decide +kernel
theorem dX7_leave_27 : decode cX7_leave 27 = .ok (.getfield 35, 3) := by decide +kernel
theorem dX7_leave_30 : decode cX7_leave 30 = .ok (.aload_n 0, 1) := by decide +kernel
theorem dX7_leave_31 : decode cX7_leave 31 = .ok (.getfield 21, 3) := by decide +kernel
theorem dX7_leave_34 : decode cX7_leave 34 = .ok (.aload_n 0, 1) := by decide +kernel
theorem dX7_leave_35 : decode cX7_leave 35 = .ok (.getfield 43, 3) := by decide +kernel
theorem dX7_leave_38 : decode cX7_leave 38 = .ok (.iaload, 1) := by decide +kernel
theorem dX7_leave_39 : decode cX7_leave 39 = .ok (.invokevirtual 63, 3) := by decide +kernel
theorem dX7_leave_42 : decode cX7_leave 42 = .ok (.return_, 1) := by decide +kernel
theorem dX7_framed_0 : decode cX7_framed 0 = .ok (.aload_n 0, 1) := by decide +kernel
theorem dX7_framed_1 : decode cX7_framed 1 = .ok (.getfield 43, 3) := by decide +kernel
theorem dX7_framed_4 : decode cX7_framed 4 = .ok (.ifCond .le 16, 3) := by decide +kernel
theorem dX7_framed_7 : decode cX7_framed 7 = .ok (.aload_n 0, 1) := by decide +kernel
theorem dX7_framed_8 : decode cX7_framed 8 = .ok (.getfield 43, 3) := by decide +kernel
theorem dX7_framed_11 : decode cX7_framed 11 = .ok (.bipush 60, 2) := by decide +kernel
theorem dX7_framed_13 : decode cX7_framed 13 = .ok (.if_icmp .gt 7, 3) := by decide +kernel
theorem dX7_framed_16 : decode cX7_framed 16 = .ok (.iconst 1, 1) := by decide +kernel
theorem dX7_framed_17 : decode cX7_framed 17 = .ok (.goto 4, 3) := by decide +kernel
theorem dX7_framed_20 : decode cX7_framed 20 = .ok (.iconst 0, 1) := by decide +kernel
theorem dX7_framed_21 : decode cX7_framed 21 = .ok (.ireturn, 1) := by decide +kernel
theorem dX7_unitNow_0 : decode cX7_unitNow 0 = .ok (.aload_n 0, 1) := by decide +kernel
theorem dX7_unitNow_1 : decode cX7_unitNow 1 = .ok (.invokevirtual 93, 3) := by decide +kernel
theorem dX7_unitNow_4 : decode cX7_unitNow 4 = .ok (.ifCond .eq 17, 3) := by decide +kernel
theorem dX7_unitNow_7 : decode cX7_unitNow 7 = .ok (.aload_n 0, 1) := by decide +kernel
theorem dX7_unitNow_8 : decode cX7_unitNow 8 = .ok (.getfield 9, 3) := by decide +kernel
theorem dX7_unitNow_11 : decode cX7_unitNow 11 = .ok (.aload_n 0, 1) := by decide +kernel
theorem dX7_unitNow_12 : decode cX7_unitNow 12 = .ok (.getfield 43, 3) := by decide +kernel
theorem dX7_unitNow_15 : decode cX7_unitNow 15 = .ok (.iconst 1, 1) := by decide +kernel
theorem dX7_unitNow_16 : decode cX7_unitNow 16 = .ok (.isub, 1) := by decide +kernel
theorem dX7_unitNow_17 : decode cX7_unitNow 17 = .ok (.iaload, 1) := by decide +kernel
theorem dX7_unitNow_18 : decode cX7_unitNow 18 = .ok (.goto 4, 3) := by decide +kernel
theorem dX7_unitNow_21 : decode cX7_unitNow 21 = .ok (.iconst 0, 1) := by decide +kernel
theorem dX7_unitNow_22 : decode cX7_unitNow 22 = .ok (.ireturn, 1) := by decide +kernel
theorem dX7_placeNow_0 : decode cX7_placeNow 0 = .ok (.aload_n 0, 1) := by decide +kernel
theorem dX7_placeNow_1 : decode cX7_placeNow 1 = .ok (.invokevirtual 93, 3) := by decide +kernel
theorem dX7_placeNow_4 : decode cX7_placeNow 4 = .ok (.ifCond .eq 17, 3) := by decide +kernel
theorem dX7_placeNow_7 : decode cX7_placeNow 7 = .ok (.aload_n 0, 1) := by decide +kernel
theorem dX7_placeNow_8 : decode cX7_placeNow 8 = .ok (.getfield 15, 3) := by decide +kernel
theorem dX7_placeNow_11 : decode cX7_placeNow 11 = .ok (.aload_n 0, 1) := by decide +kernel
theorem dX7_placeNow_12 : decode cX7_placeNow 12 = .ok (.getfield 43, 3) := by decide +kernel
theorem dX7_placeNow_15 : decode cX7_placeNow 15 = .ok (.iconst 1, 1) := by decide +kernel
theorem dX7_placeNow_16 : decode cX7_placeNow 16 = .ok (.isub, 1) := by decide +kernel
theorem dX7_placeNow_17 : decode cX7_placeNow 17 = .ok (.iaload, 1) := by decide +kernel
theorem dX7_placeNow_18 : decode cX7_placeNow 18 = .ok (.goto 4, 3) := by decide +kernel
theorem dX7_placeNow_21 : decode cX7_placeNow 21 = .ok (.iconst 0, 1) := by decide +kernel
theorem dX7_placeNow_22 : decode cX7_placeNow 22 = .ok (.ireturn, 1) := by decide +kernel
theorem dX7_goTo_0 : decode cX7_goTo 0 = .ok (.aload_n 0, 1) := by decide +kernel
theorem dX7_goTo_1 : decode cX7_goTo 1 = .ok (.invokevirtual 93, 3) := by decide +kernel
theorem dX7_goTo_4 : decode cX7_goTo 4 = .ok (.ifCond .eq 15, 3) := by decide +kernel
theorem dX7_goTo_7 : decode cX7_goTo 7 = .ok (.aload_n 0, 1) := by decide +kernel
theorem dX7_goTo_8 : decode cX7_goTo 8 = .ok (.getfield 15, 3) := by decide +kernel
theorem dX7_goTo_11 : decode cX7_goTo 11 = .ok (.aload_n 0, 1) := by decide +kernel
theorem dX7_goTo_12 : decode cX7_goTo 12 = .ok (.getfield 43, 3) := by decide +kernel
theorem dX7_goTo_15 : decode cX7_goTo 15 = .ok (.iconst 1, 1) := by decide +kernel
theorem dX7_goTo_16 : decode cX7_goTo 16 = .ok (.isub, 1) := by decide +kernel
theorem dX7_goTo_17 : decode cX7_goTo 17 = .ok (.iload_n 1, 1) := by decide +kernel
theorem dX7_goTo_18 : decode cX7_goTo 18 = .ok (.iastore, 1) := by decide +kernel
theorem dX7_goTo_19 : decode cX7_goTo 19 = .ok (.return_, 1) := by decide +kernel
theorem dX7_baseNow_0 : decode cX7_baseNow 0 = .ok (.aload_n 0, 1) := by decide +kernel
theorem dX7_baseNow_1 : decode cX7_baseNow 1 = .ok (.invokevirtual 93, 3) := by decide +kernel
theorem dX7_baseNow_4 : decode cX7_baseNow 4 = .ok (.ifCond .eq 17, 3) := by decide +kernel
theorem dX7_baseNow_7 : decode cX7_baseNow 7 = .ok (.aload_n 0, 1) := by decide +kernel
theorem dX7_baseNow_8 : decode cX7_baseNow 8 = .ok (.getfield 18, 3) := by decide +kernel
theorem dX7_baseNow_11 : decode cX7_baseNow 11 = .ok (.aload_n 0, 1) := by decide +kernel
theorem dX7_baseNow_12 : decode cX7_baseNow 12 = .ok (.getfield 43, 3) := by decide +kernel
theorem dX7_baseNow_15 : decode cX7_baseNow 15 = .ok (.iconst 1, 1) := by decide +kernel
theorem dX7_baseNow_16 : decode cX7_baseNow 16 = .ok (.isub, 1) := by decide +kernel
theorem dX7_baseNow_17 : decode cX7_baseNow 17 = .ok (.iaload, 1) := by decide +kernel
theorem dX7_baseNow_18 : decode cX7_baseNow 18 = .ok (.goto 4, 3) := by decide +kernel
theorem dX7_baseNow_21 : decode cX7_baseNow 21 = .ok (.iconst 0, 1) := by decide +kernel
theorem dX7_baseNow_22 : decode cX7_baseNow 22 = .ok (.ireturn, 1) := by decide +kernel
theorem dX7_nodeNow_0 : decode cX7_nodeNow 0 = .ok (.aload_n 0, 1) := by decide +kernel
theorem dX7_nodeNow_1 : decode cX7_nodeNow 1 = .ok (.invokevirtual 93, 3) := by decide +kernel
theorem dX7_nodeNow_4 : decode cX7_nodeNow 4 = .ok (.ifCond .eq 17, 3) := by decide +kernel
theorem dX7_nodeNow_7 : decode cX7_nodeNow 7 = .ok (.aload_n 0, 1) := by decide +kernel
theorem dX7_nodeNow_8 : decode cX7_nodeNow 8 = .ok (.getfield 24, 3) := by decide +kernel
theorem dX7_nodeNow_11 : decode cX7_nodeNow 11 = .ok (.aload_n 0, 1) := by decide +kernel
theorem dX7_nodeNow_12 : decode cX7_nodeNow 12 = .ok (.getfield 43, 3) := by decide +kernel
theorem dX7_nodeNow_15 : decode cX7_nodeNow 15 = .ok (.iconst 1, 1) := by decide +kernel
theorem dX7_nodeNow_16 : decode cX7_nodeNow 16 = .ok (.isub, 1) := by decide +kernel
theorem dX7_nodeNow_17 : decode cX7_nodeNow 17 = .ok (.iaload, 1) := by decide +kernel
theorem dX7_nodeNow_18 : decode cX7_nodeNow 18 = .ok (.goto 4, 3) := by decide +kernel
theorem dX7_nodeNow_21 : decode cX7_nodeNow 21 = .ok (.iconst (-1), 1) := by decide +kernel
theorem dX7_nodeNow_22 : decode cX7_nodeNow 22 = .ok (.ireturn, 1) := by decide +kernel
theorem dX7_contextNow_0 : decode cX7_contextNow 0 = .ok (.aload_n 0, 1) := by decide +kernel
theorem dX7_contextNow_1 : decode cX7_contextNow 1 = .ok (.invokevirtual 93, 3) := by decide +kernel
theorem dX7_contextNow_4 : decode cX7_contextNow 4 = .ok (.ifCond .eq 17, 3) := by decide +kernel
theorem dX7_contextNow_7 : decode cX7_contextNow 7 = .ok (.aload_n 0, 1) := by decide +kernel
theorem dX7_contextNow_8 : decode cX7_contextNow 8 = .ok (.getfield 27, 3) := by decide +kernel
theorem dX7_contextNow_11 : decode cX7_contextNow 11 = .ok (.aload_n 0, 1) := by decide +kernel
theorem dX7_contextNow_12 : decode cX7_contextNow 12 = .ok (.getfield 43, 3) := by decide +kernel
theorem dX7_contextNow_15 : decode cX7_contextNow 15 = .ok (.iconst 1, 1) := by decide +kernel
theorem dX7_contextNow_16 : decode cX7_contextNow 16 = .ok (.isub, 1) := by decide +kernel
theorem dX7_contextNow_17 : decode cX7_contextNow 17 = .ok (.iaload, 1) := by decide +kernel
theorem dX7_contextNow_18 : decode cX7_contextNow 18 = .ok (.goto 4, 3) := by decide +kernel
theorem dX7_contextNow_21 : decode cX7_contextNow 21 = .ok (.iconst (-1), 1) := by decide +kernel
theorem dX7_contextNow_22 : decode cX7_contextNow 22 = .ok (.ireturn, 1) := by decide +kernel
theorem dX7_peek_0 : decode cX7_peek 0 = .ok (.aload_n 0, 1) := by decide +kernel
theorem dX7_peek_1 : decode cX7_peek 1 = .ok (.getfield 35, 3) := by decide +kernel
theorem dX7_peek_4 : decode cX7_peek 4 = .ok (.aload_n 0, 1) := by decide +kernel
theorem dX7_peek_5 : decode cX7_peek 5 = .ok (.getfield 35, 3) := by decide +kernel
theorem dX7_peek_8 : decode cX7_peek 8 = .ok (.getfield 82, 3) := by decide +kernel
theorem dX7_peek_11 : decode cX7_peek 11 = .ok (.iconst 1, 1) := by decide +kernel
theorem dX7_peek_12 : decode cX7_peek 12 = .ok (.isub, 1) := by decide +kernel
theorem dX7_peek_13 : decode cX7_peek 13 = .ok (.iload_n 1, 1) := by decide +kernel
theorem dX7_peek_14 : decode cX7_peek 14 = .ok (.isub, 1) := by decide +kernel
theorem dX7_peek_15 : decode cX7_peek 15 = .ok (.invokevirtual 97, 3) := by decide +kernel
theorem dX7_peek_18 : decode cX7_peek 18 = .ok (.lreturn, 1) := by decide +kernel
theorem dX7_dropToTry_0 : decode cX7_dropToTry 0 = .ok (.aload_n 0, 1) := by decide +kernel
theorem dX7_dropToTry_1 : decode cX7_dropToTry 1 = .ok (.invokevirtual 101, 3) := by decide +kernel
theorem dX7_dropToTry_4 : decode cX7_dropToTry 4 = .ok (.istore_n 1, 1) := by decide +kernel
theorem dX7_dropToTry_5 : decode cX7_dropToTry 5 = .ok (.aload_n 0, 1) := by decide +kernel
theorem dX7_dropToTry_6 : decode cX7_dropToTry 6 = .ok (.getfield 35, 3) := by decide +kernel
theorem dX7_dropToTry_9 : decode cX7_dropToTry 9 = .ok (.getfield 82, 3) := by decide +kernel
theorem dX7_dropToTry_12 : decode cX7_dropToTry 12 = .ok (.iconst 1, 1) := by decide +kernel
theorem dX7_dropToTry_13 : decode cX7_dropToTry 13 = .ok (.isub, 1) := by decide +kernel
theorem dX7_dropToTry_14 : decode cX7_dropToTry 14 = .ok (.istore_n 2, 1) := by decide +kernel
theorem dX7_dropToTry_15 : decode cX7_dropToTry 15 = .ok (.iload_n 2, 1) := by decide +kernel
theorem dX7_dropToTry_16 : decode cX7_dropToTry 16 = .ok (.iload_n 1, 1) := by decide +kernel
theorem dX7_dropToTry_17 : decode cX7_dropToTry 17 = .ok (.if_icmp .lt 43, 3) := by decide +kernel
theorem dX7_dropToTry_20 : decode cX7_dropToTry 20 = .ok (.aload_n 0, 1) := by decide +kernel
theorem dX7_dropToTry_21 : decode cX7_dropToTry 21 = .ok (.getfield 35, 3) := by decide +kernel
theorem dX7_dropToTry_24 : decode cX7_dropToTry 24 = .ok (.iload_n 2, 1) := by decide +kernel
theorem dX7_dropToTry_25 : decode cX7_dropToTry 25 = .ok (.invokevirtual 97, 3) := by decide +kernel
theorem dX7_dropToTry_28 : decode cX7_dropToTry 28 = .ok (.invokestatic 104, 3) := by decide +kernel
theorem dX7_dropToTry_31 : decode cX7_dropToTry 31 = .ok (.iconst 5, 1) := by decide +kernel
theorem dX7_dropToTry_32 : decode cX7_dropToTry 32 = .ok (.if_icmp .ne 22, 3) := by decide +kernel
theorem dX7_dropToTry_35 : decode cX7_dropToTry 35 = .ok (.aload_n 0, 1) := by decide +kernel
theorem dX7_dropToTry_36 : decode cX7_dropToTry 36 = .ok (.getfield 35, 3) := by decide +kernel
theorem dX7_dropToTry_39 : decode cX7_dropToTry 39 = .ok (.iload_n 2, 1) := by decide +kernel
theorem dX7_dropToTry_40 : decode cX7_dropToTry 40 = .ok (.invokevirtual 108, 3) := by decide +kernel
theorem dX7_dropToTry_43 : decode cX7_dropToTry 43 = .ok (.istore_n 3, 1) := by decide +kernel
theorem dX7_dropToTry_44 : decode cX7_dropToTry 44 = .ok (.aload_n 0, 1) := by decide +kernel
theorem dX7_dropToTry_45 : decode cX7_dropToTry 45 = .ok (.getfield 35, 3) := by decide +kernel
theorem dX7_dropToTry_48 : decode cX7_dropToTry 48 = .ok (.iload_n 2, 1) := by decide +kernel
theorem dX7_dropToTry_49 : decode cX7_dropToTry 49 = .ok (.invokevirtual 63, 3) := by decide +kernel
theorem dX7_dropToTry_52 : decode cX7_dropToTry 52 = .ok (.iload_n 3, 1) := by decide +kernel
theorem dX7_dropToTry_53 : decode cX7_dropToTry 53 = .ok (.ireturn, 1) := by decide +kernel
theorem dX7_dropToTry_54 : decode cX7_dropToTry 54 = .ok (.iinc 2 (-1), 3) := by decide +kernel
theorem dX7_dropToTry_57 : decode cX7_dropToTry 57 = .ok (.goto (-42), 3) := by decide +kernel
theorem dX7_dropToTry_60 : decode cX7_dropToTry 60 = .ok (.iconst (-1), 1) := by decide +kernel
theorem dX7_dropToTry_61 : decode cX7_dropToTry 61 = .ok (.ireturn, 1) := by decide +kernel
theorem dX7_finish_0 : decode cX7_finish 0 = .ok (.aload_n 0, 1) := by decide +kernel
theorem dX7_finish_1 : decode cX7_finish 1 = .ok (.iload_n 1, 1) := by decide +kernel
theorem dX7_finish_2 : decode cX7_finish 2 = .ok (.putfield 49, 3) := by decide +kernel
theorem dX7_finish_5 : decode cX7_finish 5 = .ok (.aload_n 0, 1) := by decide +kernel
theorem dX7_finish_6 : decode cX7_finish 6 = .ok (.lload_n 2, 1) := by decide +kernel
theorem dX7_finish_7 : decode cX7_finish 7 = .ok (.putfield 59, 3) := by decide +kernel
theorem dX7_finish_10 : decode cX7_finish 10 = .ok (.return_, 1) := by decide +kernel
theorem dX8_findNeeds_0 : decode cX8_findNeeds 0 = .ok (.aload_n 0, 1) := by decide +kernel
theorem dX8_findNeeds_1 : decode cX8_findNeeds 1 = .ok (.iconst 1, 1) := by decide +kernel
theorem dX8_findNeeds_2 : decode cX8_findNeeds 2 = .ok (.putfield 23, 3) := by decide +kernel
theorem dX8_findNeeds_5 : decode cX8_findNeeds 5 = .ok (.iconst 0, 1) := by decide +kernel
theorem dX8_findNeeds_6 : decode cX8_findNeeds 6 = .ok (.istore_n 1, 1) := by decide +kernel
theorem dX8_findNeeds_7 : decode cX8_findNeeds 7 = .ok (.aload_n 0, 1) := by decide +kernel
theorem dX8_findNeeds_8 : decode cX8_findNeeds 8 = .ok (.getfield 23, 3) := by decide +kernel
theorem dX8_findNeeds_11 : decode cX8_findNeeds 11 = .ok (.ifCond .eq 83, 3) := by decide +kernel
theorem dX8_findNeeds_14 : decode cX8_findNeeds 14 = .ok (.iload_n 1, 1) := by decide +kernel
theorem dX8_findNeeds_15 : decode cX8_findNeeds 15 = .ok (.bipush 60, 2) := by decide +kernel
theorem dX8_findNeeds_17 : decode cX8_findNeeds 17 = .ok (.if_icmp .gt 77, 3) := by decide +kernel
theorem dX8_findNeeds_20 : decode cX8_findNeeds 20 = .ok (.aload_n 0, 1) := by decide +kernel
theorem dX8_findNeeds_21 : decode cX8_findNeeds 21 = .ok (.iconst 0, 1) := by decide +kernel
theorem dX8_findNeeds_22 : decode cX8_findNeeds 22 = .ok (.putfield 23, 3) := by decide +kernel
theorem dX8_findNeeds_25 : decode cX8_findNeeds 25 = .ok (.iconst 0, 1) := by decide +kernel
theorem dX8_findNeeds_26 : decode cX8_findNeeds 26 = .ok (.istore_n 2, 1) := by decide +kernel
theorem dX8_findNeeds_27 : decode cX8_findNeeds 27 = .ok (.iload_n 2, 1) := by decide +kernel
theorem dX8_findNeeds_28 : decode cX8_findNeeds 28 = .ok (.aload_n 0, 1) := by decide +kernel
theorem dX8_findNeeds_29 : decode cX8_findNeeds 29 = .ok (.getfield 9, 3) := by decide +kernel
theorem dX8_findNeeds_32 : decode cX8_findNeeds 32 = .ok (.getfield 26, 3) := by decide +kernel
theorem dX8_findNeeds_35 : decode cX8_findNeeds 35 = .ok (.if_icmp .ge 53, 3) := by decide +kernel
theorem dX8_findNeeds_38 : decode cX8_findNeeds 38 = .ok (.aload_n 0, 1) := by decide +kernel
theorem dX8_findNeeds_39 : decode cX8_findNeeds 39 = .ok (.getfield 9, 3) := by decide +kernel
theorem dX8_findNeeds_42 : decode cX8_findNeeds 42 = .ok (.iload_n 2, 1) := by decide +kernel
theorem dX8_findNeeds_43 : decode cX8_findNeeds 43 = .ok (.invokevirtual 32, 3) := by decide +kernel
theorem dX8_findNeeds_46 : decode cX8_findNeeds 46 = .ok (.getfield 36, 3) := by decide +kernel
theorem dX8_findNeeds_49 : decode cX8_findNeeds 49 = .ok (.ifCond .ne 33, 3) := by decide +kernel
theorem dX8_findNeeds_52 : decode cX8_findNeeds 52 = .ok (.aload_n 0, 1) := by decide +kernel
theorem dX8_findNeeds_53 : decode cX8_findNeeds 53 = .ok (.aload_n 0, 1) := by decide +kernel
theorem dX8_findNeeds_54 : decode cX8_findNeeds 54 = .ok (.getfield 9, 3) := by decide +kernel
theorem dX8_findNeeds_57 : decode cX8_findNeeds 57 = .ok (.iload_n 2, 1) := by decide +kernel
theorem dX8_findNeeds_58 : decode cX8_findNeeds 58 = .ok (.invokevirtual 32, 3) := by decide +kernel
theorem dX8_findNeeds_61 : decode cX8_findNeeds 61 = .ok (.invokevirtual 41, 3) := by decide +kernel
theorem dX8_findNeeds_64 : decode cX8_findNeeds 64 = .ok (.ifCond .eq 18, 3) := by decide +kernel
theorem dX8_findNeeds_67 : decode cX8_findNeeds 67 = .ok (.aload_n 0, 1) := by decide +kernel
theorem dX8_findNeeds_68 : decode cX8_findNeeds 68 = .ok (.aload_n 0, 1) := by decide +kernel
theorem dX8_findNeeds_69 : decode cX8_findNeeds 69 = .ok (.getfield 9, 3) := by decide +kernel
theorem dX8_findNeeds_72 : decode cX8_findNeeds 72 = .ok (.iload_n 2, 1) := by decide +kernel
theorem dX8_findNeeds_73 : decode cX8_findNeeds 73 = .ok (.invokevirtual 32, 3) := by decide +kernel
theorem dX8_findNeeds_76 : decode cX8_findNeeds 76 = .ok (.getfield 45, 3) := by decide +kernel
theorem dX8_findNeeds_79 : decode cX8_findNeeds 79 = .ok (.invokevirtual 48, 3) := by decide +kernel
theorem dX8_findNeeds_82 : decode cX8_findNeeds 82 = .ok (.iinc 2 1, 3) := by decide +kernel
theorem dX8_findNeeds_85 : decode cX8_findNeeds 85 = .ok (.goto (-58), 3) := by decide +kernel
theorem dX8_findNeeds_88 : decode cX8_findNeeds 88 = .ok (.iinc 1 1, 3) := by decide +kernel
theorem dX8_findNeeds_91 : decode cX8_findNeeds 91 = .ok (.goto (-84), 3) := by decide +kernel
theorem dX8_findNeeds_94 : decode cX8_findNeeds 94 = .ok (.return_, 1) := by decide +kernel
theorem dX8_wantsContext_0 : decode cX8_wantsContext 0 = .ok (.iconst 0, 1) := by decide +kernel
theorem dX8_wantsContext_1 : decode cX8_wantsContext 1 = .ok (.istore_n 2, 1) := by decide +kernel
theorem dX8_wantsContext_2 : decode cX8_wantsContext 2 = .ok (.iconst 0, 1) := by decide +kernel
theorem dX8_wantsContext_3 : decode cX8_wantsContext 3 = .ok (.istore_n 3, 1) := by decide +kernel
theorem dX8_wantsContext_4 : decode cX8_wantsContext 4 = .ok (.iload_n 2, 1) := by decide +kernel
theorem dX8_wantsContext_5 : decode cX8_wantsContext 5 = .ok (.ifCond .ne 40, 3) := by decide +kernel
theorem dX8_wantsContext_8 : decode cX8_wantsContext 8 = .ok (.iload_n 3, 1) := by decide +kernel
theorem dX8_wantsContext_9 : decode cX8_wantsContext 9 = .ok (.aload_n 1, 1) := by decide +kernel
theorem dX8_wantsContext_10 : decode cX8_wantsContext 10 = .ok (.invokevirtual 52, 3) := by decide +kernel
theorem dX8_wantsContext_13 : decode cX8_wantsContext 13 = .ok (.if_icmp .ge 32, 3) := by decide +kernel
theorem dX8_wantsContext_16 : decode cX8_wantsContext 16 = .ok (.aload_n 0, 1) := by decide +kernel
theorem dX8_wantsContext_17 : decode cX8_wantsContext 17 = .ok (.getfield 9, 3) := by decide +kernel
theorem dX8_wantsContext_20 : decode cX8_wantsContext 20 = .ok (.aload_n 1, 1) := by decide +kernel
theorem dX8_wantsContext_21 : decode cX8_wantsContext 21 = .ok (.iload_n 3, 1) := by decide +kernel
theorem dX8_wantsContext_22 : decode cX8_wantsContext 22 = .ok (.invokevirtual 56, 3) := by decide +kernel
theorem dX8_wantsContext_25 : decode cX8_wantsContext 25 = .ok (.aload_n 1, 1) := by decide +kernel
theorem dX8_wantsContext_26 : decode cX8_wantsContext 26 = .ok (.iload_n 3, 1) := by decide +kernel
theorem dX8_wantsContext_27 : decode cX8_wantsContext 27 = .ok (.invokevirtual 60, 3) := by decide +kernel
theorem dX8_wantsContext_30 : decode cX8_wantsContext 30 = .ok (.aload_n 1, 1) := by decide +kernel
theorem dX8_wantsContext_31 : decode cX8_wantsContext 31 = .ok (.iload_n 3, 1) := by decide +kernel
theorem dX8_wantsContext_32 : decode cX8_wantsContext 32 = .ok (.invokevirtual 63, 3) := by decide +kernel
theorem dX8_wantsContext_35 : decode cX8_wantsContext 35 = .ok (.invokevirtual 66, 3) := by decide +kernel
theorem dX8_wantsContext_38 : decode cX8_wantsContext 38 = .ok (.istore_n 2, 1) := by decide +kernel
theorem dX8_wantsContext_39 : decode cX8_wantsContext 39 = .ok (.iinc 3 1, 3) := by decide +kernel
theorem dX8_wantsContext_42 : decode cX8_wantsContext 42 = .ok (.goto (-38), 3) := by decide +kernel
theorem dX8_wantsContext_45 : decode cX8_wantsContext 45 = .ok (.iload_n 2, 1) := by decide +kernel
theorem dX8_wantsContext_46 : decode cX8_wantsContext 46 = .ok (.ireturn, 1) := by decide +kernel
theorem dX8_setNeeds_0 : decode cX8_setNeeds 0 = .ok (.iconst 0, 1) := by decide +kernel
theorem dX8_setNeeds_1 : decode cX8_setNeeds 1 = .ok (.istore_n 2, 1) := by decide +kernel
theorem dX8_setNeeds_2 : decode cX8_setNeeds 2 = .ok (.iload_n 2, 1) := by decide +kernel
theorem dX8_setNeeds_3 : decode cX8_setNeeds 3 = .ok (.aload_n 0, 1) := by decide +kernel
theorem dX8_setNeeds_4 : decode cX8_setNeeds 4 = .ok (.getfield 9, 3) := by decide +kernel
theorem dX8_setNeeds_7 : decode cX8_setNeeds 7 = .ok (.getfield 26, 3) := by decide +kernel
theorem dX8_setNeeds_10 : decode cX8_setNeeds 10 = .ok (.if_icmp .ge 41, 3) := by decide +kernel
theorem dX8_setNeeds_13 : decode cX8_setNeeds 13 = .ok (.aload_n 0, 1) := by decide +kernel
theorem dX8_setNeeds_14 : decode cX8_setNeeds 14 = .ok (.getfield 9, 3) := by decide +kernel
theorem dX8_setNeeds_17 : decode cX8_setNeeds 17 = .ok (.iload_n 2, 1) := by decide +kernel
theorem dX8_setNeeds_18 : decode cX8_setNeeds 18 = .ok (.invokevirtual 32, 3) := by decide +kernel
theorem dX8_setNeeds_21 : decode cX8_setNeeds 21 = .ok (.getfield 45, 3) := by decide +kernel
theorem dX8_setNeeds_24 : decode cX8_setNeeds 24 = .ok (.iload_n 1, 1) := by decide +kernel
theorem dX8_setNeeds_25 : decode cX8_setNeeds 25 = .ok (.if_icmp .ne 20, 3) := by decide +kernel
theorem dX8_setNeeds_28 : decode cX8_setNeeds 28 = .ok (.aload_n 0, 1) := by decide +kernel
theorem dX8_setNeeds_29 : decode cX8_setNeeds 29 = .ok (.getfield 9, 3) := by decide +kernel
theorem dX8_setNeeds_32 : decode cX8_setNeeds 32 = .ok (.iload_n 2, 1) := by decide +kernel
theorem dX8_setNeeds_33 : decode cX8_setNeeds 33 = .ok (.invokevirtual 32, 3) := by decide +kernel
theorem dX8_setNeeds_36 : decode cX8_setNeeds 36 = .ok (.iconst 1, 1) := by decide +kernel
theorem dX8_setNeeds_37 : decode cX8_setNeeds 37 = .ok (.putfield 36, 3) := by decide +kernel
theorem dX8_setNeeds_40 : decode cX8_setNeeds 40 = .ok (.aload_n 0, 1) := by decide +kernel
theorem dX8_setNeeds_41 : decode cX8_setNeeds 41 = .ok (.iconst 1, 1) := by decide +kernel
theorem dX8_setNeeds_42 : decode cX8_setNeeds 42 = .ok (.putfield 23, 3) := by decide +kernel
theorem dX8_setNeeds_45 : decode cX8_setNeeds 45 = .ok (.iinc 2 1, 3) := by decide +kernel
theorem dX8_setNeeds_48 : decode cX8_setNeeds 48 = .ok (.goto (-46), 3) := by decide +kernel
theorem dX8_setNeeds_51 : decode cX8_setNeeds 51 = .ok (.return_, 1) := by decide +kernel
theorem dX8_mayOf_0 : decode cX8_mayOf 0 = .ok (.iload_n 1, 1) := by decide +kernel
theorem dX8_mayOf_1 : decode cX8_mayOf 1 = .ok (.ifCond .lt 18, 3) := by decide +kernel
theorem dX8_mayOf_4 : decode cX8_mayOf 4 = .ok (.iload_n 1, 1) := by decide +kernel
theorem dX8_mayOf_5 : decode cX8_mayOf 5 = .ok (.bipush 60, 2) := by decide +kernel
theorem dX8_mayOf_7 : decode cX8_mayOf 7 = .ok (.if_icmp .ge 12, 3) := by decide +kernel
theorem dX8_mayOf_10 : decode cX8_mayOf 10 = .ok (.aload_n 0, 1) := by decide +kernel
theorem dX8_mayOf_11 : decode cX8_mayOf 11 = .ok (.getfield 15, 3) := by decide +kernel
theorem dX8_mayOf_14 : decode cX8_mayOf 14 = .ok (.iload_n 1, 1) := by decide +kernel
theorem dX8_mayOf_15 : decode cX8_mayOf 15 = .ok (.iaload, 1) := by decide +kernel
theorem dX8_mayOf_16 : decode cX8_mayOf 16 = .ok (.goto 4, 3) := by decide +kernel
theorem dX8_mayOf_19 : decode cX8_mayOf 19 = .ok (.iconst 0, 1) := by decide +kernel
theorem dX8_mayOf_20 : decode cX8_mayOf 20 = .ok (.ireturn, 1) := by decide +kernel
theorem dX8_findMay_0 : decode cX8_findMay 0 = .ok (.aload_n 0, 1) := by decide +kernel
theorem dX8_findMay_1 : decode cX8_findMay 1 = .ok (.getfield 15, 3) := by decide +kernel
theorem dX8_findMay_4 : decode cX8_findMay 4 = .ok (.iconst 0, 1) := by decide +kernel
theorem dX8_findMay_5 : decode cX8_findMay 5 = .ok (.invokestatic 70, 3) := by decide +kernel
theorem dX8_findMay_8 : decode cX8_findMay 8 = .ok (.aload_n 0, 1) := by decide +kernel
theorem dX8_findMay_9 : decode cX8_findMay 9 = .ok (.iconst 0, 1) := by decide +kernel
theorem dX8_findMay_10 : decode cX8_findMay 10 = .ok (.putfield 76, 3) := by decide +kernel
theorem dX8_findMay_13 : decode cX8_findMay 13 = .ok (.iconst 0, 1) := by decide +kernel
theorem dX8_findMay_14 : decode cX8_findMay 14 = .ok (.istore_n 2, 1) := by decide +kernel
theorem dX8_findMay_15 : decode cX8_findMay 15 = .ok (.iload_n 2, 1) := by decide +kernel
theorem dX8_findMay_16 : decode cX8_findMay 16 = .ok (.aload_n 0, 1) := by decide +kernel
theorem dX8_findMay_17 : decode cX8_findMay 17 = .ok (.getfield 9, 3) := by decide +kernel
theorem dX8_findMay_20 : decode cX8_findMay 20 = .ok (.getfield 26, 3) := by decide +kernel
theorem dX8_findMay_23 : decode cX8_findMay 23 = .ok (.if_icmp .ge 43, 3) := by decide +kernel
theorem dX8_findMay_26 : decode cX8_findMay 26 = .ok (.aload_n 0, 1) := by decide +kernel
theorem dX8_findMay_27 : decode cX8_findMay 27 = .ok (.getfield 9, 3) := by decide +kernel
theorem dX8_findMay_30 : decode cX8_findMay 30 = .ok (.iload_n 2, 1) := by decide +kernel
theorem dX8_findMay_31 : decode cX8_findMay 31 = .ok (.invokevirtual 32, 3) := by decide +kernel
theorem dX8_findMay_34 : decode cX8_findMay 34 = .ok (.astore_n 3, 1) := by decide +kernel
theorem dX8_findMay_35 : decode cX8_findMay 35 = .ok (.aload_n 3, 1) := by decide +kernel
theorem dX8_findMay_36 : decode cX8_findMay 36 = .ok (.getfield 79, 3) := by decide +kernel
theorem dX8_findMay_39 : decode cX8_findMay 39 = .ok (.ifCond .ne 21, 3) := by decide +kernel
theorem dX8_findMay_42 : decode cX8_findMay 42 = .ok (.aload_n 3, 1) := by decide +kernel
theorem dX8_findMay_43 : decode cX8_findMay 43 = .ok (.getfield 82, 3) := by decide +kernel
theorem dX8_findMay_46 : decode cX8_findMay 46 = .ok (.ifCond .ne 14, 3) := by decide +kernel
theorem dX8_findMay_49 : decode cX8_findMay 49 = .ok (.aload_n 0, 1) := by decide +kernel
theorem dX8_findMay_50 : decode cX8_findMay 50 = .ok (.aload_n 3, 1) := by decide +kernel
theorem dX8_findMay_51 : decode cX8_findMay 51 = .ok (.iconst 1, 1) := by decide +kernel
theorem dX8_findMay_52 : decode cX8_findMay 52 = .ok (.aload_n 3, 1) := by decide +kernel
theorem dX8_findMay_53 : decode cX8_findMay 53 = .ok (.iload_n 1, 1) := by decide +kernel
theorem dX8_findMay_54 : decode cX8_findMay 54 = .ok (.invokestatic 85, 3) := by decide +kernel
theorem dX8_findMay_57 : decode cX8_findMay 57 = .ok (.invokevirtual 89, 3) := by decide +kernel
theorem dX8_findMay_60 : decode cX8_findMay 60 = .ok (.iinc 2 1, 3) := by decide +kernel
theorem dX8_findMay_63 : decode cX8_findMay 63 = .ok (.goto (-48), 3) := by decide +kernel
theorem dX8_findMay_66 : decode cX8_findMay 66 = .ok (.aload_n 0, 1) := by decide +kernel
theorem dX8_findMay_67 : decode cX8_findMay 67 = .ok (.iconst 1, 1) := by decide +kernel
theorem dX8_findMay_68 : decode cX8_findMay 68 = .ok (.putfield 23, 3) := by decide +kernel
