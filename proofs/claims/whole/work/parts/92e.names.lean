theorem dX12_writeTry_0 : decode cX12_writeTry 0 = .ok (.aload_n 0, 1) := by decide +kernel
theorem dX12_writeTry_1 : decode cX12_writeTry 1 = .ok (.bipush 19, 2) := by decide +kernel
theorem dX12_writeTry_3 : decode cX12_writeTry 3 = .ok (.invokevirtual 701, 3) := by decide +kernel
theorem dX12_writeTry_6 : decode cX12_writeTry 6 = .ok (.istore_n 3, 1) := by decide +kernel
theorem dX12_writeTry_7 : decode cX12_writeTry 7 = .ok (.aload_n 0, 1) := by decide +kernel
theorem dX12_writeTry_8 : decode cX12_writeTry 8 = .ok (.iload_n 2, 1) := by decide +kernel
theorem dX12_writeTry_9 : decode cX12_writeTry 9 = .ok (.invokevirtual 662, 3) := by decide +kernel
theorem dX12_writeTry_12 : decode cX12_writeTry 12 = .ok (.aload_n 0, 1) := by decide +kernel
theorem dX12_writeTry_13 : decode cX12_writeTry 13 = .ok (.bipush 20, 2) := by decide +kernel
theorem dX12_writeTry_15 : decode cX12_writeTry 15 = .ok (.invokevirtual 647, 3) := by decide +kernel
theorem dX12_writeTry_18 : decode cX12_writeTry 18 = .ok (.aload_n 0, 1) := by decide +kernel
theorem dX12_writeTry_19 : decode cX12_writeTry 19 = .ok (.bipush 17, 2) := by decide +kernel
theorem dX12_writeTry_21 : decode cX12_writeTry 21 = .ok (.invokevirtual 701, 3) := by decide +kernel
theorem dX12_writeTry_24 : decode cX12_writeTry 24 = .ok (.istore 4, 2) := by decide +kernel
theorem dX12_writeTry_26 : decode cX12_writeTry 26 = .ok (.aload_n 0, 1) := by decide +kernel
theorem dX12_writeTry_27 : decode cX12_writeTry 27 = .ok (.iload_n 3, 1) := by decide +kernel
theorem dX12_writeTry_28 : decode cX12_writeTry 28 = .ok (.invokevirtual 704, 3) := by decide +kernel
theorem dX12_writeTry_31 : decode cX12_writeTry 31 = .ok (.aload_n 0, 1) := by decide +kernel
theorem dX12_writeTry_32 : decode cX12_writeTry 32 = .ok (.iconst 3, 1) := by decide +kernel
theorem dX12_writeTry_33 : decode cX12_writeTry 33 = .ok (.aload_n 0, 1) := by decide +kernel
theorem dX12_writeTry_34 : decode cX12_writeTry 34 = .ok (.aload_n 0, 1) := by decide +kernel
theorem dX12_writeTry_35 : decode cX12_writeTry 35 = .ok (.getfield 653, 3) := by decide +kernel
theorem dX12_writeTry_38 : decode cX12_writeTry 38 = .ok (.aload_n 0, 1) := by decide +kernel
theorem dX12_writeTry_39 : decode cX12_writeTry 39 = .ok (.getfield 133, 3) := by decide +kernel
theorem dX12_writeTry_42 : decode cX12_writeTry 42 = .ok (.iload_n 1, 1) := by decide +kernel
theorem dX12_writeTry_43 : decode cX12_writeTry 43 = .ok (.iaload, 1) := by decide +kernel
theorem dX12_writeTry_44 : decode cX12_writeTry 44 = .ok (.invokevirtual 686, 3) := by decide +kernel
theorem dX12_writeTry_47 : decode cX12_writeTry 47 = .ok (.invokevirtual 665, 3) := by decide +kernel
theorem dX12_writeTry_50 : decode cX12_writeTry 50 = .ok (.aload_n 0, 1) := by decide +kernel
theorem dX12_writeTry_51 : decode cX12_writeTry 51 = .ok (.aload_n 0, 1) := by decide +kernel
theorem dX12_writeTry_52 : decode cX12_writeTry 52 = .ok (.getfield 142, 3) := by decide +kernel
theorem dX12_writeTry_55 : decode cX12_writeTry 55 = .ok (.iload_n 2, 1) := by decide +kernel
theorem dX12_writeTry_56 : decode cX12_writeTry 56 = .ok (.iaload, 1) := by decide +kernel
theorem dX12_writeTry_57 : decode cX12_writeTry 57 = .ok (.invokevirtual 662, 3) := by decide +kernel
theorem dX12_writeTry_60 : decode cX12_writeTry 60 = .ok (.aload_n 0, 1) := by decide +kernel
theorem dX12_writeTry_61 : decode cX12_writeTry 61 = .ok (.iload 4, 2) := by decide +kernel
theorem dX12_writeTry_63 : decode cX12_writeTry 63 = .ok (.invokevirtual 704, 3) := by decide +kernel
theorem dX12_writeTry_66 : decode cX12_writeTry 66 = .ok (.return_, 1) := by decide +kernel
theorem dX12_fault_0 : decode cX12_fault 0 = .ok (.aload_n 0, 1) := by decide +kernel
theorem dX12_fault_1 : decode cX12_fault 1 = .ok (.iconst 0, 1) := by decide +kernel
theorem dX12_fault_2 : decode cX12_fault 2 = .ok (.putfield 268, 3) := by decide +kernel
theorem dX12_fault_5 : decode cX12_fault 5 = .ok (.iload_n 1, 1) := by decide +kernel
theorem dX12_fault_6 : decode cX12_fault 6 = .ok (.ifCond .ne 10, 3) := by decide +kernel
theorem dX12_fault_9 : decode cX12_fault 9 = .ok (.aload_n 0, 1) := by decide +kernel
theorem dX12_fault_10 : decode cX12_fault 10 = .ok (.getfield 289, 3) := by decide +kernel
theorem dX12_fault_13 : decode cX12_fault 13 = .ok (.goto 16, 3) := by decide +kernel
theorem dX12_fault_16 : decode cX12_fault 16 = .ok (.iload_n 1, 1) := by decide +kernel
theorem dX12_fault_17 : decode cX12_fault 17 = .ok (.iconst 1, 1) := by decide +kernel
theorem dX12_fault_18 : decode cX12_fault 18 = .ok (.if_icmp .ne 10, 3) := by decide +kernel
theorem dX12_fault_21 : decode cX12_fault 21 = .ok (.aload_n 0, 1) := by decide +kernel
theorem dX12_fault_22 : decode cX12_fault 22 = .ok (.getfield 16, 3) := by decide +kernel
theorem dX12_fault_25 : decode cX12_fault 25 = .ok (.goto 4, 3) := by decide +kernel
theorem dX12_fault_28 : decode cX12_fault 28 = .ok (.iconst (-1), 1) := by decide +kernel
theorem dX12_fault_29 : decode cX12_fault 29 = .ok (.ireturn, 1) := by decide +kernel
theorem dX12_count_0 : decode cX12_count 0 = .ok (.aload_n 0, 1) := by decide +kernel
theorem dX12_count_1 : decode cX12_count 1 = .ok (.iconst 0, 1) := by decide +kernel
theorem dX12_count_2 : decode cX12_count 2 = .ok (.putfield 268, 3) := by decide +kernel
theorem dX12_count_5 : decode cX12_count 5 = .ok (.iload_n 1, 1) := by decide +kernel
theorem dX12_count_6 : decode cX12_count 6 = .ok (.bipush 9, 2) := by decide +kernel
theorem dX12_count_8 : decode cX12_count 8 = .ok (.if_icmp .ne 8, 3) := by decide +kernel
theorem dX12_count_11 : decode cX12_count 11 = .ok (.aload_n 0, 1) := by decide +kernel
theorem dX12_count_12 : decode cX12_count 12 = .ok (.getfield 271, 3) := by decide +kernel
theorem dX12_count_15 : decode cX12_count 15 = .ok (.ireturn, 1) := by decide +kernel
theorem dX12_count_16 : decode cX12_count 16 = .ok (.iload_n 1, 1) := by decide +kernel
theorem dX12_count_17 : decode cX12_count 17 = .ok (.i2l, 1) := by decide +kernel
theorem dX12_count_18 : decode cX12_count 18 = .ok (.lconst 0, 1) := by decide +kernel
theorem dX12_count_19 : decode cX12_count 19 = .ok (.ldc2_w 707, 3) := by decide +kernel
theorem dX12_count_22 : decode cX12_count 22 = .ok (.invokestatic 274, 3) := by decide +kernel
theorem dX12_count_25 : decode cX12_count 25 = .ok (.ifCond .ne 5, 3) := by decide +kernel
theorem dX12_count_28 : decode cX12_count 28 = .ok (.iconst (-1), 1) := by decide +kernel
theorem dX12_count_29 : decode cX12_count 29 = .ok (.ireturn, 1) := by decide +kernel
theorem dX12_count_30 : decode cX12_count 30 = .ok (.aload_n 0, 1) := by decide +kernel
theorem dX12_count_31 : decode cX12_count 31 = .ok (.getfield 428, 3) := by decide +kernel
theorem dX12_count_34 : decode cX12_count 34 = .ok (.ifCond .ne 5, 3) := by decide +kernel
theorem dX12_count_37 : decode cX12_count 37 = .ok (.iconst 0, 1) := by decide +kernel
theorem dX12_count_38 : decode cX12_count 38 = .ok (.ireturn, 1) := by decide +kernel
theorem dX12_count_39 : decode cX12_count 39 = .ok (.iconst 0, 1) := by decide +kernel
theorem dX12_count_40 : decode cX12_count 40 = .ok (.istore_n 2, 1) := by decide +kernel
theorem dX12_count_41 : decode cX12_count 41 = .ok (.iconst 0, 1) := by decide +kernel
theorem dX12_count_42 : decode cX12_count 42 = .ok (.istore_n 3, 1) := by decide +kernel
theorem dX12_count_43 : decode cX12_count 43 = .ok (.iload_n 3, 1) := by decide +kernel
theorem dX12_count_44 : decode cX12_count 44 = .ok (.aload_n 0, 1) := by decide +kernel
theorem dX12_count_45 : decode cX12_count 45 = .ok (.getfield 437, 3) := by decide +kernel
theorem dX12_count_48 : decode cX12_count 48 = .ok (.if_icmp .ge 26, 3) := by decide +kernel
theorem dX12_count_51 : decode cX12_count 51 = .ok (.iload_n 2, 1) := by decide +kernel
theorem dX12_count_52 : decode cX12_count 52 = .ok (.aload_n 0, 1) := by decide +kernel
theorem dX12_count_53 : decode cX12_count 53 = .ok (.getfield 96, 3) := by decide +kernel
theorem dX12_count_56 : decode cX12_count 56 = .ok (.iload_n 3, 1) := by decide +kernel
theorem dX12_count_57 : decode cX12_count 57 = .ok (.baload, 1) := by decide +kernel
theorem dX12_count_58 : decode cX12_count 58 = .ok (.ifCond .eq 7, 3) := by decide +kernel
theorem dX12_count_61 : decode cX12_count 61 = .ok (.iconst 1, 1) := by decide +kernel
theorem dX12_count_62 : decode cX12_count 62 = .ok (.goto 4, 3) := by decide +kernel
theorem dX12_count_65 : decode cX12_count 65 = .ok (.iconst 0, 1) := by decide +kernel
theorem dX12_count_66 : decode cX12_count 66 = .ok (.iadd, 1) := by decide +kernel
theorem dX12_count_67 : decode cX12_count 67 = .ok (.istore_n 2, 1) := by decide +kernel
theorem dX12_count_68 : decode cX12_count 68 = .ok (.iinc 3 1, 3) := by decide +kernel
theorem dX12_count_71 : decode cX12_count 71 = .ok (.goto (-28), 3) := by decide +kernel
theorem dX12_count_74 : decode cX12_count 74 = .ok (.aload_n 0, 1) := by decide +kernel
theorem dX12_count_75 : decode cX12_count 75 = .ok (.getfield 159, 3) := by decide +kernel
theorem dX12_count_78 : decode cX12_count 78 = .ok (.astore_n 3, 1) := by decide +kernel
theorem dX12_count_79 : decode cX12_count 79 = .ok (.aload_n 3, 1) := by decide +kernel
theorem dX12_count_80 : decode cX12_count 80 = .ok (.iconst 0, 1) := by decide +kernel
theorem dX12_count_81 : decode cX12_count 81 = .ok (.aload_n 0, 1) := by decide +kernel
theorem dX12_count_82 : decode cX12_count 82 = .ok (.getfield 437, 3) := by decide +kernel
theorem dX12_count_85 : decode cX12_count 85 = .ok (.iastore, 1) := by decide +kernel
theorem dX12_count_86 : decode cX12_count 86 = .ok (.aload_n 3, 1) := by decide +kernel
theorem dX12_count_87 : decode cX12_count 87 = .ok (.iconst 1, 1) := by decide +kernel
theorem dX12_count_88 : decode cX12_count 88 = .ok (.aload_n 0, 1) := by decide +kernel
theorem dX12_count_89 : decode cX12_count 89 = .ok (.getfield 434, 3) := by decide +kernel
theorem dX12_count_92 : decode cX12_count 92 = .ok (.iastore, 1) := by decide +kernel
theorem dX12_count_93 : decode cX12_count 93 = .ok (.aload_n 3, 1) := by decide +kernel
theorem dX12_count_94 : decode cX12_count 94 = .ok (.iconst 2, 1) := by decide +kernel
theorem dX12_count_95 : decode cX12_count 95 = .ok (.aload_n 0, 1) := by decide +kernel
theorem dX12_count_96 : decode cX12_count 96 = .ok (.getfield 411, 3) := by decide +kernel
theorem dX12_count_99 : decode cX12_count 99 = .ok (.iastore, 1) := by decide +kernel
theorem dX12_count_100 : decode cX12_count 100 = .ok (.aload_n 3, 1) := by decide +kernel
theorem dX12_count_101 : decode cX12_count 101 = .ok (.iconst 3, 1) := by decide +kernel
theorem dX12_count_102 : decode cX12_count 102 = .ok (.aload_n 0, 1) := by decide +kernel
theorem dX12_count_103 : decode cX12_count 103 = .ok (.getfield 629, 3) := by decide +kernel
theorem dX12_count_106 : decode cX12_count 106 = .ok (.iastore, 1) := by decide +kernel
theorem dX12_count_107 : decode cX12_count 107 = .ok (.aload_n 3, 1) := by decide +kernel
theorem dX12_count_108 : decode cX12_count 108 = .ok (.iconst 4, 1) := by decide +kernel
theorem dX12_count_109 : decode cX12_count 109 = .ok (.aload_n 0, 1) := by decide +kernel
theorem dX12_count_110 : decode cX12_count 110 = .ok (.getfield 431, 3) := by decide +kernel
theorem dX12_count_113 : decode cX12_count 113 = .ok (.iastore, 1) := by decide +kernel
theorem dX12_count_114 : decode cX12_count 114 = .ok (.aload_n 3, 1) := by decide +kernel
theorem dX12_count_115 : decode cX12_count 115 = .ok (.iconst 5, 1) := by decide +kernel
theorem dX12_count_116 : decode cX12_count 116 = .ok (.aload_n 0, 1) := by decide +kernel
theorem dX12_count_117 : decode cX12_count 117 = .ok (.getfield 440, 3) := by decide +kernel
theorem dX12_count_120 : decode cX12_count 120 = .ok (.iastore, 1) := by decide +kernel
theorem dX12_count_121 : decode cX12_count 121 = .ok (.aload_n 3, 1) := by decide +kernel
theorem dX12_count_122 : decode cX12_count 122 = .ok (.bipush 6, 2) := by decide +kernel
theorem dX12_count_124 : decode cX12_count 124 = .ok (.iload_n 2, 1) := by decide +kernel
theorem dX12_count_125 : decode cX12_count 125 = .ok (.iastore, 1) := by decide +kernel
theorem dX12_count_126 : decode cX12_count 126 = .ok (.aload_n 3, 1) := by decide +kernel
theorem dX12_count_127 : decode cX12_count 127 = .ok (.bipush 7, 2) := by decide +kernel
theorem dX12_count_129 : decode cX12_count 129 = .ok (.aload_n 0, 1) := by decide +kernel
theorem dX12_count_130 : decode cX12_count 130 = .ok (.getfield 449, 3) := by decide +kernel
theorem dX12_count_133 : decode cX12_count 133 = .ok (.iastore, 1) := by decide +kernel
theorem dX12_count_134 : decode cX12_count 134 = .ok (.aload_n 3, 1) := by decide +kernel
theorem dX12_count_135 : decode cX12_count 135 = .ok (.bipush 8, 2) := by decide +kernel
theorem dX12_count_137 : decode cX12_count 137 = .ok (.aload_n 0, 1) := by decide +kernel
theorem dX12_count_138 : decode cX12_count 138 = .ok (.getfield 452, 3) := by decide +kernel
theorem dX12_count_141 : decode cX12_count 141 = .ok (.iastore, 1) := by decide +kernel
theorem dX12_count_142 : decode cX12_count 142 = .ok (.aload_n 3, 1) := by decide +kernel
theorem dX12_count_143 : decode cX12_count 143 = .ok (.iload_n 1, 1) := by decide +kernel
theorem dX12_count_144 : decode cX12_count 144 = .ok (.iaload, 1) := by decide +kernel
theorem dX12_count_145 : decode cX12_count 145 = .ok (.ireturn, 1) := by decide +kernel
theorem dX12_isUnit_0 : decode cX12_isUnit 0 = .ok (.aload_n 0, 1) := by decide +kernel
theorem dX12_isUnit_1 : decode cX12_isUnit 1 = .ok (.getfield 428, 3) := by decide +kernel
theorem dX12_isUnit_4 : decode cX12_isUnit 4 = .ok (.ifCond .eq 23, 3) := by decide +kernel
theorem dX12_isUnit_7 : decode cX12_isUnit 7 = .ok (.iload_n 1, 1) := by decide +kernel
theorem dX12_isUnit_8 : decode cX12_isUnit 8 = .ok (.i2l, 1) := by decide +kernel
theorem dX12_isUnit_9 : decode cX12_isUnit 9 = .ok (.lconst 0, 1) := by decide +kernel
theorem dX12_isUnit_10 : decode cX12_isUnit 10 = .ok (.aload_n 0, 1) := by decide +kernel
theorem dX12_isUnit_11 : decode cX12_isUnit 11 = .ok (.getfield 437, 3) := by decide +kernel
theorem dX12_isUnit_14 : decode cX12_isUnit 14 = .ok (.iconst 1, 1) := by decide +kernel
theorem dX12_isUnit_15 : decode cX12_isUnit 15 = .ok (.isub, 1) := by decide +kernel
theorem dX12_isUnit_16 : decode cX12_isUnit 16 = .ok (.i2l, 1) := by decide +kernel
theorem dX12_isUnit_17 : decode cX12_isUnit 17 = .ok (.invokestatic 274, 3) := by decide +kernel
theorem dX12_isUnit_20 : decode cX12_isUnit 20 = .ok (.ifCond .eq 7, 3) := by decide +kernel
theorem dX12_isUnit_23 : decode cX12_isUnit 23 = .ok (.iconst 1, 1) := by decide +kernel
theorem dX12_isUnit_24 : decode cX12_isUnit 24 = .ok (.goto 4, 3) := by decide +kernel
theorem dX12_isUnit_27 : decode cX12_isUnit 27 = .ok (.iconst 0, 1) := by decide +kernel
theorem dX12_isUnit_28 : decode cX12_isUnit 28 = .ok (.ireturn, 1) := by decide +kernel
theorem dX12_unit_0 : decode cX12_unit 0 = .ok (.aload_n 0, 1) := by decide +kernel
theorem dX12_unit_1 : decode cX12_unit 1 = .ok (.iconst 0, 1) := by decide +kernel
theorem dX12_unit_2 : decode cX12_unit 2 = .ok (.putfield 268, 3) := by decide +kernel
theorem dX12_unit_5 : decode cX12_unit 5 = .ok (.aload_n 0, 1) := by decide +kernel
theorem dX12_unit_6 : decode cX12_unit 6 = .ok (.iload_n 1, 1) := by decide +kernel
theorem dX12_unit_7 : decode cX12_unit 7 = .ok (.invokevirtual 709, 3) := by decide +kernel
theorem dX12_unit_10 : decode cX12_unit 10 = .ok (.ifCond .ne 5, 3) := by decide +kernel
theorem dX12_unit_13 : decode cX12_unit 13 = .ok (.iconst (-1), 1) := by decide +kernel
theorem dX12_unit_14 : decode cX12_unit 14 = .ok (.ireturn, 1) := by decide +kernel
theorem dX12_unit_15 : decode cX12_unit 15 = .ok (.iload_n 2, 1) := by decide +kernel
theorem dX12_unit_16 : decode cX12_unit 16 = .ok (.tableswitch 148 0 8 #[52, 59, 66, 73, 80, 87, 93, 108, 126], 52) := by decide +kernel
theorem dX12_unit_68 : decode cX12_unit 68 = .ok (.aload_n 0, 1) := by decide +kernel
theorem dX12_unit_69 : decode cX12_unit 69 = .ok (.getfield 63, 3) := by decide +kernel
theorem dX12_unit_72 : decode cX12_unit 72 = .ok (.iload_n 1, 1) := by decide +kernel
theorem dX12_unit_73 : decode cX12_unit 73 = .ok (.iaload, 1) := by decide +kernel
theorem dX12_unit_74 : decode cX12_unit 74 = .ok (.ireturn, 1) := by decide +kernel
theorem dX12_unit_75 : decode cX12_unit 75 = .ok (.aload_n 0, 1) := by decide +kernel
theorem dX12_unit_76 : decode cX12_unit 76 = .ok (.getfield 66, 3) := by decide +kernel
theorem dX12_unit_79 : decode cX12_unit 79 = .ok (.iload_n 1, 1) := by decide +kernel
theorem dX12_unit_80 : decode cX12_unit 80 = .ok (.iaload, 1) := by decide +kernel
theorem dX12_unit_81 : decode cX12_unit 81 = .ok (.ireturn, 1) := by decide +kernel
theorem dX12_unit_82 : decode cX12_unit 82 = .ok (.aload_n 0, 1) := by decide +kernel
theorem dX12_unit_83 : decode cX12_unit 83 = .ok (.getfield 69, 3) := by decide +kernel
theorem dX12_unit_86 : decode cX12_unit 86 = .ok (.iload_n 1, 1) := by decide +kernel
theorem dX12_unit_87 : decode cX12_unit 87 = .ok (.iaload, 1) := by decide +kernel
theorem dX12_unit_88 : decode cX12_unit 88 = .ok (.ireturn, 1) := by decide +kernel
theorem dX12_unit_89 : decode cX12_unit 89 = .ok (.aload_n 0, 1) := by decide +kernel
theorem dX12_unit_90 : decode cX12_unit 90 = .ok (.getfield 72, 3) := by decide +kernel
theorem dX12_unit_93 : decode cX12_unit 93 = .ok (.iload_n 1, 1) := by decide +kernel
theorem dX12_unit_94 : decode cX12_unit 94 = .ok (.iaload, 1) := by decide +kernel
theorem dX12_unit_95 : decode cX12_unit 95 = .ok (.ireturn, 1) := by decide +kernel
theorem dX12_unit_96 : decode cX12_unit 96 = .ok (.aload_n 0, 1) := by decide +kernel
theorem dX12_unit_97 : decode cX12_unit 97 = .ok (.getfield 87, 3) := by decide +kernel
theorem dX12_unit_100 : decode cX12_unit 100 = .ok (.iload_n 1, 1) := by decide +kernel
theorem dX12_unit_101 : decode cX12_unit 101 = .ok (.iaload, 1) := by decide +kernel
theorem dX12_unit_102 : decode cX12_unit 102 = .ok (.ireturn, 1) := by decide +kernel
theorem dX12_unit_103 : decode cX12_unit 103 = .ok (.aload_n 0, 1) := by decide +kernel
theorem dX12_unit_104 : decode cX12_unit 104 = .ok (.iload_n 1, 1) := by decide +kernel
theorem dX12_unit_105 : decode cX12_unit 105 = .ok (.invokevirtual 680, 3) := by decide +kernel
theorem dX12_unit_108 : decode cX12_unit 108 = .ok (.ireturn, 1) := by decide +kernel
theorem dX12_unit_109 : decode cX12_unit 109 = .ok (.aload_n 0, 1) := by decide +kernel
theorem dX12_unit_110 : decode cX12_unit 110 = .ok (.getfield 96, 3) := by decide +kernel
theorem dX12_unit_113 : decode cX12_unit 113 = .ok (.iload_n 1, 1) := by decide +kernel
theorem dX12_unit_114 : decode cX12_unit 114 = .ok (.baload, 1) := by decide +kernel
theorem dX12_unit_115 : decode cX12_unit 115 = .ok (.ifCond .eq 7, 3) := by decide +kernel
theorem dX12_unit_118 : decode cX12_unit 118 = .ok (.iconst 1, 1) := by decide +kernel
theorem dX12_unit_119 : decode cX12_unit 119 = .ok (.goto 4, 3) := by decide +kernel
theorem dX12_unit_122 : decode cX12_unit 122 = .ok (.iconst 0, 1) := by decide +kernel
theorem dX12_unit_123 : decode cX12_unit 123 = .ok (.ireturn, 1) := by decide +kernel
theorem dX12_unit_124 : decode cX12_unit 124 = .ok (.aload_n 0, 1) := by decide +kernel
theorem dX12_unit_125 : decode cX12_unit 125 = .ok (.getfield 156, 3) := by decide +kernel
theorem dX12_unit_128 : decode cX12_unit 128 = .ok (.iconst 2, 1) := by decide +kernel
theorem dX12_unit_129 : decode cX12_unit 129 = .ok (.iload_n 1, 1) := by decide +kernel
theorem dX12_unit_130 : decode cX12_unit 130 = .ok (.imul, 1) := by decide +kernel
theorem dX12_unit_131 : decode cX12_unit 131 = .ok (.iaload, 1) := by decide +kernel
theorem dX12_unit_132 : decode cX12_unit 132 = .ok (.aload_n 0, 1) := by decide +kernel
theorem dX12_unit_133 : decode cX12_unit 133 = .ok (.getfield 153, 3) := by decide +kernel
theorem dX12_unit_136 : decode cX12_unit 136 = .ok (.iconst 2, 1) := by decide +kernel
theorem dX12_unit_137 : decode cX12_unit 137 = .ok (.iload_n 1, 1) := by decide +kernel
theorem dX12_unit_138 : decode cX12_unit 138 = .ok (.imul, 1) := by decide +kernel
theorem dX12_unit_139 : decode cX12_unit 139 = .ok (.iaload, 1) := by decide +kernel
theorem dX12_unit_140 : decode cX12_unit 140 = .ok (.isub, 1) := by decide +kernel
theorem dX12_unit_141 : decode cX12_unit 141 = .ok (.ireturn, 1) := by decide +kernel
theorem dX12_unit_142 : decode cX12_unit 142 = .ok (.aload_n 0, 1) := by decide +kernel
theorem dX12_unit_143 : decode cX12_unit 143 = .ok (.getfield 156, 3) := by decide +kernel
theorem dX12_unit_146 : decode cX12_unit 146 = .ok (.iconst 2, 1) := by decide +kernel
theorem dX12_unit_147 : decode cX12_unit 147 = .ok (.iload_n 1, 1) := by decide +kernel
theorem dX12_unit_148 : decode cX12_unit 148 = .ok (.imul, 1) := by decide +kernel
theorem dX12_unit_149 : decode cX12_unit 149 = .ok (.iconst 1, 1) := by decide +kernel
theorem dX12_unit_150 : decode cX12_unit 150 = .ok (.iadd, 1) := by decide +kernel
theorem dX12_unit_151 : decode cX12_unit 151 = .ok (.iaload, 1) := by decide +kernel
theorem dX12_unit_152 : decode cX12_unit 152 = .ok (.aload_n 0, 1) := by decide +kernel
theorem dX12_unit_153 : decode cX12_unit 153 = .ok (.getfield 153, 3) := by decide +kernel
theorem dX12_unit_156 : decode cX12_unit 156 = .ok (.iconst 2, 1) := by decide +kernel
theorem dX12_unit_157 : decode cX12_unit 157 = .ok (.iload_n 1, 1) := by decide +kernel
theorem dX12_unit_158 : decode cX12_unit 158 = .ok (.imul, 1) := by decide +kernel
theorem dX12_unit_159 : decode cX12_unit 159 = .ok (.iconst 1, 1) := by decide +kernel
theorem dX12_unit_160 : decode cX12_unit 160 = .ok (.iadd, 1) := by decide +kernel
theorem dX12_unit_161 : decode cX12_unit 161 = .ok (.iaload, 1) := by decide +kernel
theorem dX12_unit_162 : decode cX12_unit 162 = .ok (.isub, 1) := by decide +kernel
theorem dX12_unit_163 : decode cX12_unit 163 = .ok (.ireturn, 1) := by decide +kernel
theorem dX12_unit_164 : decode cX12_unit 164 = .ok (.iconst (-1), 1) := by decide +kernel
theorem dX12_unit_165 : decode cX12_unit 165 = .ok (.ireturn, 1) := by decide +kernel
theorem dX12_code_0 : decode cX12_code 0 = .ok (.aload_n 0, 1) := by decide +kernel
theorem dX12_code_1 : decode cX12_code 1 = .ok (.iconst 0, 1) := by decide +kernel
theorem dX12_code_2 : decode cX12_code 2 = .ok (.putfield 268, 3) := by decide +kernel
theorem dX12_code_5 : decode cX12_code 5 = .ok (.aload_n 0, 1) := by decide +kernel
theorem dX12_code_6 : decode cX12_code 6 = .ok (.iload_n 1, 1) := by decide +kernel
theorem dX12_code_7 : decode cX12_code 7 = .ok (.invokevirtual 709, 3) := by decide +kernel
theorem dX12_code_10 : decode cX12_code 10 = .ok (.ifCond .ne 5, 3) := by decide +kernel
theorem dX12_code_13 : decode cX12_code 13 = .ok (.iconst (-1), 1) := by decide +kernel
theorem dX12_code_14 : decode cX12_code 14 = .ok (.ireturn, 1) := by decide +kernel
theorem dX12_code_15 : decode cX12_code 15 = .ok (.iconst 2, 1) := by decide +kernel
theorem dX12_code_16 : decode cX12_code 16 = .ok (.iload_n 1, 1) := by decide +kernel
theorem dX12_code_17 : decode cX12_code 17 = .ok (.imul, 1) := by decide +kernel
theorem dX12_code_18 : decode cX12_code 18 = .ok (.iload_n 2, 1) := by decide +kernel
theorem dX12_code_19 : decode cX12_code 19 = .ok (.ifCond .eq 7, 3) := by decide +kernel
theorem dX12_code_22 : decode cX12_code 22 = .ok (.iconst 1, 1) := by decide +kernel
theorem dX12_code_23 : decode cX12_code 23 = .ok (.goto 4, 3) := by decide +kernel
theorem dX12_code_26 : decode cX12_code 26 = .ok (.iconst 0, 1) := by decide +kernel
theorem dX12_code_27 : decode cX12_code 27 = .ok (.iadd, 1) := by decide +kernel
theorem dX12_code_28 : decode cX12_code 28 = .ok (.istore 4, 2) := by decide +kernel
theorem dX12_code_30 : decode cX12_code 30 = .ok (.iload_n 3, 1) := by decide +kernel
theorem dX12_code_31 : decode cX12_code 31 = .ok (.i2l, 1) := by decide +kernel
theorem dX12_code_32 : decode cX12_code 32 = .ok (.lconst 0, 1) := by decide +kernel
theorem dX12_code_33 : decode cX12_code 33 = .ok (.aload_n 0, 1) := by decide +kernel
theorem dX12_code_34 : decode cX12_code 34 = .ok (.getfield 156, 3) := by decide +kernel
theorem dX12_code_37 : decode cX12_code 37 = .ok (.iload 4, 2) := by decide +kernel
theorem dX12_code_39 : decode cX12_code 39 = .ok (.iaload, 1) := by decide +kernel
theorem dX12_code_40 : decode cX12_code 40 = .ok (.aload_n 0, 1) := by decide +kernel
theorem dX12_code_41 : decode cX12_code 41 = .ok (.getfield 153, 3) := by decide +kernel
theorem dX12_code_44 : decode cX12_code 44 = .ok (.iload 4, 2) := by decide +kernel
theorem dX12_code_46 : decode cX12_code 46 = .ok (.iaload, 1) := by decide +kernel
theorem dX12_code_47 : decode cX12_code 47 = .ok (.isub, 1) := by decide +kernel
theorem dX12_code_48 : decode cX12_code 48 = .ok (.iconst 1, 1) := by decide +kernel
theorem dX12_code_49 : decode cX12_code 49 = .ok (.isub, 1) := by decide +kernel
theorem dX12_code_50 : decode cX12_code 50 = .ok (.i2l, 1) := by decide +kernel
theorem dX12_code_51 : decode cX12_code 51 = .ok (.invokestatic 274, 3) := by decide +kernel
theorem dX12_code_54 : decode cX12_code 54 = .ok (.ifCond .eq 24, 3) := by decide +kernel
theorem dX12_code_57 : decode cX12_code 57 = .ok (.aload_n 0, 1) := by decide +kernel
theorem dX12_code_58 : decode cX12_code 58 = .ok (.getfield 149, 3) := by decide +kernel
theorem dX12_code_61 : decode cX12_code 61 = .ok (.aload_n 0, 1) := by decide +kernel
theorem dX12_code_62 : decode cX12_code 62 = .ok (.getfield 153, 3) := by decide +kernel
theorem dX12_code_65 : decode cX12_code 65 = .ok (.iload 4, 2) := by decide +kernel
theorem dX12_code_67 : decode cX12_code 67 = .ok (.iaload, 1) := by decide +kernel
theorem dX12_code_68 : decode cX12_code 68 = .ok (.iload_n 3, 1) := by decide +kernel
theorem dX12_code_69 : decode cX12_code 69 = .ok (.iadd, 1) := by decide +kernel
theorem dX12_code_70 : decode cX12_code 70 = .ok (.baload, 1) := by decide +kernel
theorem dX12_code_71 : decode cX12_code 71 = .ok (.sipush 255, 3) := by decide +kernel
theorem dX12_code_74 : decode cX12_code 74 = .ok (.iand, 1) := by decide +kernel
theorem dX12_code_75 : decode cX12_code 75 = .ok (.goto 4, 3) := by decide +kernel
theorem dX12_code_78 : decode cX12_code 78 = .ok (.iconst (-1), 1) := by decide +kernel
theorem dX12_code_79 : decode cX12_code 79 = .ok (.ireturn, 1) := by decide +kernel
theorem dX12_number_0 : decode cX12_number 0 = .ok (.aload_n 0, 1) := by decide +kernel
theorem dX12_number_1 : decode cX12_number 1 = .ok (.iconst 0, 1) := by decide +kernel
theorem dX12_number_2 : decode cX12_number 2 = .ok (.putfield 268, 3) := by decide +kernel
theorem dX12_number_5 : decode cX12_number 5 = .ok (.aload_n 0, 1) := by decide +kernel
theorem dX12_number_6 : decode cX12_number 6 = .ok (.getfield 428, 3) := by decide +kernel
theorem dX12_number_9 : decode cX12_number 9 = .ok (.ifCond .eq 28, 3) := by decide +kernel
theorem dX12_number_12 : decode cX12_number 12 = .ok (.iload_n 1, 1) := by decide +kernel
theorem dX12_number_13 : decode cX12_number 13 = .ok (.i2l, 1) := by decide +kernel
theorem dX12_number_14 : decode cX12_number 14 = .ok (.lconst 0, 1) := by decide +kernel
theorem dX12_number_15 : decode cX12_number 15 = .ok (.aload_n 0, 1) := by decide +kernel
theorem dX12_number_16 : decode cX12_number 16 = .ok (.getfield 449, 3) := by decide +kernel
theorem dX12_number_19 : decode cX12_number 19 = .ok (.iconst 1, 1) := by decide +kernel
theorem dX12_number_20 : decode cX12_number 20 = .ok (.isub, 1) := by decide +kernel
theorem dX12_number_21 : decode cX12_number 21 = .ok (.i2l, 1) := by decide +kernel
theorem dX12_number_22 : decode cX12_number 22 = .ok (.invokestatic 274, 3) := by decide +kernel
theorem dX12_number_25 : decode cX12_number 25 = .ok (.ifCond .eq 12, 3) := by decide +kernel
theorem dX12_number_28 : decode cX12_number 28 = .ok (.aload_n 0, 1) := by decide +kernel
theorem dX12_number_29 : decode cX12_number 29 = .ok (.getfield 121, 3) := by decide +kernel
theorem dX12_number_32 : decode cX12_number 32 = .ok (.iload_n 1, 1) := by decide +kernel
theorem dX12_number_33 : decode cX12_number 33 = .ok (.iaload, 1) := by decide +kernel
theorem dX12_number_34 : decode cX12_number 34 = .ok (.goto 4, 3) := by decide +kernel
theorem dX12_number_37 : decode cX12_number 37 = .ok (.iconst 0, 1) := by decide +kernel
theorem dX12_number_38 : decode cX12_number 38 = .ok (.ireturn, 1) := by decide +kernel
theorem dX12_domain_0 : decode cX12_domain 0 = .ok (.aload_n 0, 1) := by decide +kernel
theorem dX12_domain_1 : decode cX12_domain 1 = .ok (.iconst 0, 1) := by decide +kernel
theorem dX12_domain_2 : decode cX12_domain 2 = .ok (.putfield 268, 3) := by decide +kernel
theorem dX12_domain_5 : decode cX12_domain 5 = .ok (.aload_n 0, 1) := by decide +kernel
theorem dX12_domain_6 : decode cX12_domain 6 = .ok (.getfield 428, 3) := by decide +kernel
theorem dX12_domain_9 : decode cX12_domain 9 = .ok (.ifCond .eq 28, 3) := by decide +kernel
theorem dX12_domain_12 : decode cX12_domain 12 = .ok (.iload_n 1, 1) := by decide +kernel
theorem dX12_domain_13 : decode cX12_domain 13 = .ok (.i2l, 1) := by decide +kernel
theorem dX12_domain_14 : decode cX12_domain 14 = .ok (.lconst 0, 1) := by decide +kernel
theorem dX12_domain_15 : decode cX12_domain 15 = .ok (.aload_n 0, 1) := by decide +kernel
theorem dX12_domain_16 : decode cX12_domain 16 = .ok (.getfield 434, 3) := by decide +kernel
theorem dX12_domain_19 : decode cX12_domain 19 = .ok (.iconst 1, 1) := by decide +kernel
theorem dX12_domain_20 : decode cX12_domain 20 = .ok (.isub, 1) := by decide +kernel
theorem dX12_domain_21 : decode cX12_domain 21 = .ok (.i2l, 1) := by decide +kernel
theorem dX12_domain_22 : decode cX12_domain 22 = .ok (.invokestatic 274, 3) := by decide +kernel
theorem dX12_domain_25 : decode cX12_domain 25 = .ok (.ifCond .eq 12, 3) := by decide +kernel
theorem dX12_domain_28 : decode cX12_domain 28 = .ok (.aload_n 0, 1) := by decide +kernel
theorem dX12_domain_29 : decode cX12_domain 29 = .ok (.getfield 57, 3) := by decide +kernel
theorem dX12_domain_32 : decode cX12_domain 32 = .ok (.iload_n 1, 1) := by decide +kernel
theorem dX12_domain_33 : decode cX12_domain 33 = .ok (.iaload, 1) := by decide +kernel
theorem dX12_domain_34 : decode cX12_domain 34 = .ok (.goto 4, 3) := by decide +kernel
theorem dX12_domain_37 : decode cX12_domain 37 = .ok (.iconst (-1), 1) := by decide +kernel
theorem dX12_domain_38 : decode cX12_domain 38 = .ok (.ireturn, 1) := by decide +kernel
theorem dX12_asks_0 : decode cX12_asks 0 = .ok (.aload_n 0, 1) := by decide +kernel
theorem dX12_asks_1 : decode cX12_asks 1 = .ok (.iconst 0, 1) := by decide +kernel
theorem dX12_asks_2 : decode cX12_asks 2 = .ok (.putfield 268, 3) := by decide +kernel
theorem dX12_asks_5 : decode cX12_asks 5 = .ok (.aload_n 0, 1) := by decide +kernel
theorem dX12_asks_6 : decode cX12_asks 6 = .ok (.getfield 289, 3) := by decide +kernel
theorem dX12_asks_9 : decode cX12_asks 9 = .ok (.istore_n 1, 1) := by decide +kernel
theorem dX12_asks_10 : decode cX12_asks 10 = .ok (.aload_n 0, 1) := by decide +kernel
theorem dX12_asks_11 : decode cX12_asks 11 = .ok (.getfield 16, 3) := by decide +kernel
theorem dX12_asks_14 : decode cX12_asks 14 = .ok (.istore_n 2, 1) := by decide +kernel
theorem dX12_asks_15 : decode cX12_asks 15 = .ok (.aload_n 0, 1) := by decide +kernel
theorem dX12_asks_16 : decode cX12_asks 16 = .ok (.aload_n 0, 1) := by decide +kernel
theorem dX12_asks_17 : decode cX12_asks 17 = .ok (.getfield 271, 3) := by decide +kernel
theorem dX12_asks_20 : decode cX12_asks 20 = .ok (.putfield 278, 3) := by decide +kernel
theorem dX12_asks_23 : decode cX12_asks 23 = .ok (.iconst 0, 1) := by decide +kernel
theorem dX12_asks_24 : decode cX12_asks 24 = .ok (.istore_n 3, 1) := by decide +kernel
theorem dX12_asks_25 : decode cX12_asks 25 = .ok (.iload_n 3, 1) := by decide +kernel
theorem dX12_asks_26 : decode cX12_asks 26 = .ok (.aload_n 0, 1) := by decide +kernel
theorem dX12_asks_27 : decode cX12_asks 27 = .ok (.getfield 278, 3) := by decide +kernel
theorem dX12_asks_30 : decode cX12_asks 30 = .ok (.if_icmp .ge 21, 3) := by decide +kernel
theorem dX12_asks_33 : decode cX12_asks 33 = .ok (.aload_n 0, 1) := by decide +kernel
theorem dX12_asks_34 : decode cX12_asks 34 = .ok (.getfield 13, 3) := by decide +kernel
theorem dX12_asks_37 : decode cX12_asks 37 = .ok (.iload_n 3, 1) := by decide +kernel
theorem dX12_asks_38 : decode cX12_asks 38 = .ok (.aload_n 0, 1) := by decide +kernel
theorem dX12_asks_39 : decode cX12_asks 39 = .ok (.getfield 9, 3) := by decide +kernel
theorem dX12_asks_42 : decode cX12_asks 42 = .ok (.iload_n 3, 1) := by decide +kernel
theorem dX12_asks_43 : decode cX12_asks 43 = .ok (.iaload, 1) := by decide +kernel
theorem dX12_asks_44 : decode cX12_asks 44 = .ok (.iastore, 1) := by decide +kernel
theorem dX12_asks_45 : decode cX12_asks 45 = .ok (.iinc 3 1, 3) := by decide +kernel
theorem dX12_asks_48 : decode cX12_asks 48 = .ok (.goto (-23), 3) := by decide +kernel
theorem dX12_asks_51 : decode cX12_asks 51 = .ok (.aload_n 0, 1) := by decide +kernel
theorem dX12_asks_52 : decode cX12_asks 52 = .ok (.iconst 0, 1) := by decide +kernel
theorem dX12_asks_53 : decode cX12_asks 53 = .ok (.putfield 271, 3) := by decide +kernel
theorem dX12_asks_56 : decode cX12_asks 56 = .ok (.aload_n 0, 1) := by decide +kernel
theorem dX12_asks_57 : decode cX12_asks 57 = .ok (.iconst 0, 1) := by decide +kernel
theorem dX12_asks_58 : decode cX12_asks 58 = .ok (.putfield 289, 3) := by decide +kernel
theorem dX12_asks_61 : decode cX12_asks 61 = .ok (.aload_n 0, 1) := by decide +kernel
theorem dX12_asks_62 : decode cX12_asks 62 = .ok (.iconst 5, 1) := by decide +kernel
theorem dX12_asks_63 : decode cX12_asks 63 = .ok (.putfield 382, 3) := by decide +kernel
theorem dX12_asks_66 : decode cX12_asks 66 = .ok (.aload_n 0, 1) := by decide +kernel
theorem dX12_asks_67 : decode cX12_asks 67 = .ok (.iconst 0, 1) := by decide +kernel
theorem dX12_asks_68 : decode cX12_asks 68 = .ok (.putfield 336, 3) := by decide +kernel
theorem dX12_asks_71 : decode cX12_asks 71 = .ok (.aload_n 0, 1) := by decide +kernel
theorem dX12_asks_72 : decode cX12_asks 72 = .ok (.invokevirtual 388, 3) := by decide +kernel
theorem dX12_asks_75 : decode cX12_asks 75 = .ok (.aload_n 0, 1) := by decide +kernel
theorem dX12_asks_76 : decode cX12_asks 76 = .ok (.invokevirtual 332, 3) := by decide +kernel
theorem dX12_asks_79 : decode cX12_asks 79 = .ok (.ifCond .eq 15, 3) := by decide +kernel
theorem dX12_asks_82 : decode cX12_asks 82 = .ok (.aload_n 0, 1) := by decide +kernel
theorem dX12_asks_83 : decode cX12_asks 83 = .ok (.getfield 292, 3) := by decide +kernel
theorem dX12_asks_86 : decode cX12_asks 86 = .ok (.iconst 1, 1) := by decide +kernel
theorem dX12_asks_87 : decode cX12_asks 87 = .ok (.if_icmp .ne 7, 3) := by decide +kernel
theorem dX12_asks_90 : decode cX12_asks 90 = .ok (.iconst 1, 1) := by decide +kernel
theorem dX12_asks_91 : decode cX12_asks 91 = .ok (.goto 4, 3) := by decide +kernel
theorem dX12_asks_94 : decode cX12_asks 94 = .ok (.iconst 0, 1) := by decide +kernel
theorem dX12_asks_95 : decode cX12_asks 95 = .ok (.istore_n 3, 1) := by decide +kernel
theorem dX12_asks_96 : decode cX12_asks 96 = .ok (.aload_n 0, 1) := by decide +kernel
theorem dX12_asks_97 : decode cX12_asks 97 = .ok (.getfield 358, 3) := by decide +kernel
theorem dX12_asks_100 : decode cX12_asks 100 = .ok (.lstore 4, 2) := by decide +kernel
theorem dX12_asks_102 : decode cX12_asks 102 = .ok (.iload_n 3, 1) := by decide +kernel
theorem dX12_asks_103 : decode cX12_asks 103 = .ok (.ifCond .eq 35, 3) := by decide +kernel
theorem dX12_asks_106 : decode cX12_asks 106 = .ok (.aload_n 0, 1) := by decide +kernel
theorem dX12_asks_107 : decode cX12_asks 107 = .ok (.invokevirtual 388, 3) := by decide +kernel
theorem dX12_asks_110 : decode cX12_asks 110 = .ok (.aload_n 0, 1) := by decide +kernel
theorem dX12_asks_111 : decode cX12_asks 111 = .ok (.invokevirtual 332, 3) := by decide +kernel
theorem dX12_asks_114 : decode cX12_asks 114 = .ok (.ifCond .eq 22, 3) := by decide +kernel
theorem dX12_asks_117 : decode cX12_asks 117 = .ok (.aload_n 0, 1) := by decide +kernel
theorem dX12_asks_118 : decode cX12_asks 118 = .ok (.getfield 292, 3) := by decide +kernel
theorem dX12_asks_121 : decode cX12_asks 121 = .ok (.iconst 4, 1) := by decide +kernel
theorem dX12_asks_122 : decode cX12_asks 122 = .ok (.if_icmp .ne 14, 3) := by decide +kernel
theorem dX12_asks_125 : decode cX12_asks 125 = .ok (.aload_n 0, 1) := by decide +kernel
theorem dX12_asks_126 : decode cX12_asks 126 = .ok (.getfield 379, 3) := by decide +kernel
theorem dX12_asks_129 : decode cX12_asks 129 = .ok (.ifCond .ne 7, 3) := by decide +kernel
theorem dX12_asks_132 : decode cX12_asks 132 = .ok (.iconst 1, 1) := by decide +kernel
theorem dX12_asks_133 : decode cX12_asks 133 = .ok (.goto 4, 3) := by decide +kernel
theorem dX12_asks_136 : decode cX12_asks 136 = .ok (.iconst 0, 1) := by decide +kernel
theorem dX12_asks_137 : decode cX12_asks 137 = .ok (.istore_n 3, 1) := by decide +kernel
theorem dX12_asks_138 : decode cX12_asks 138 = .ok (.iload_n 3, 1) := by decide +kernel
theorem dX12_asks_139 : decode cX12_asks 139 = .ok (.ifCond .eq 67, 3) := by decide +kernel
theorem dX12_asks_142 : decode cX12_asks 142 = .ok (.aload_n 0, 1) := by decide +kernel
theorem dX12_asks_143 : decode cX12_asks 143 = .ok (.getfield 376, 3) := by decide +kernel
theorem dX12_asks_146 : decode cX12_asks 146 = .ok (.istore 6, 2) := by decide +kernel
theorem dX12_asks_148 : decode cX12_asks 148 = .ok (.aload_n 0, 1) := by decide +kernel
theorem dX12_asks_149 : decode cX12_asks 149 = .ok (.getfield 336, 3) := by decide +kernel
theorem dX12_asks_152 : decode cX12_asks 152 = .ok (.istore 7, 2) := by decide +kernel
theorem dX12_asks_154 : decode cX12_asks 154 = .ok (.aload_n 0, 1) := by decide +kernel
theorem dX12_asks_155 : decode cX12_asks 155 = .ok (.invokevirtual 388, 3) := by decide +kernel
theorem dX12_asks_158 : decode cX12_asks 158 = .ok (.aload_n 0, 1) := by decide +kernel
theorem dX12_asks_159 : decode cX12_asks 159 = .ok (.invokevirtual 332, 3) := by decide +kernel
theorem dX12_asks_162 : decode cX12_asks 162 = .ok (.ifCond .eq 14, 3) := by decide +kernel
theorem dX12_asks_165 : decode cX12_asks 165 = .ok (.aload_n 0, 1) := by decide +kernel
theorem dX12_asks_166 : decode cX12_asks 166 = .ok (.getfield 292, 3) := by decide +kernel
theorem dX12_asks_169 : decode cX12_asks 169 = .ok (.ifCond .ne 7, 3) := by decide +kernel
theorem dX12_asks_172 : decode cX12_asks 172 = .ok (.iconst 1, 1) := by decide +kernel
theorem dX12_asks_173 : decode cX12_asks 173 = .ok (.goto 4, 3) := by decide +kernel
theorem dX12_asks_176 : decode cX12_asks 176 = .ok (.iconst 0, 1) := by decide +kernel
theorem dX12_asks_177 : decode cX12_asks 177 = .ok (.istore_n 3, 1) := by decide +kernel
theorem dX12_asks_178 : decode cX12_asks 178 = .ok (.iload_n 3, 1) := by decide +kernel
theorem dX12_asks_179 : decode cX12_asks 179 = .ok (.ifCond .eq 27, 3) := by decide +kernel
theorem dX12_asks_182 : decode cX12_asks 182 = .ok (.aload_n 0, 1) := by decide +kernel
theorem dX12_asks_183 : decode cX12_asks 183 = .ok (.iload 6, 2) := by decide +kernel
theorem dX12_asks_185 : decode cX12_asks 185 = .ok (.putfield 376, 3) := by decide +kernel
theorem dX12_asks_188 : decode cX12_asks 188 = .ok (.aload_n 0, 1) := by decide +kernel
theorem dX12_asks_189 : decode cX12_asks 189 = .ok (.sipush 264, 3) := by decide +kernel
theorem dX12_asks_192 : decode cX12_asks 192 = .ok (.invokevirtual 397, 3) := by decide +kernel
theorem dX12_asks_195 : decode cX12_asks 195 = .ok (.aload_n 0, 1) := by decide +kernel
theorem dX12_asks_196 : decode cX12_asks 196 = .ok (.lload 4, 2) := by decide +kernel
theorem dX12_asks_198 : decode cX12_asks 198 = .ok (.putfield 712, 3) := by decide +kernel
theorem dX12_asks_201 : decode cX12_asks 201 = .ok (.aload_n 0, 1) := by decide +kernel
theorem dX12_asks_202 : decode cX12_asks 202 = .ok (.iconst 1, 1) := by decide +kernel
theorem dX12_asks_203 : decode cX12_asks 203 = .ok (.putfield 715, 3) := by decide +kernel
theorem dX12_asks_206 : decode cX12_asks 206 = .ok (.aload_n 0, 1) := by decide +kernel
theorem dX12_asks_207 : decode cX12_asks 207 = .ok (.iload_n 1, 1) := by decide +kernel
theorem dX12_asks_208 : decode cX12_asks 208 = .ok (.putfield 289, 3) := by decide +kernel
theorem dX12_asks_211 : decode cX12_asks 211 = .ok (.aload_n 0, 1) := by decide +kernel
theorem dX12_asks_212 : decode cX12_asks 212 = .ok (.iload_n 2, 1) := by decide +kernel
theorem dX12_asks_213 : decode cX12_asks 213 = .ok (.putfield 16, 3) := by decide +kernel
theorem dX12_asks_216 : decode cX12_asks 216 = .ok (.iload_n 3, 1) := by decide +kernel
theorem dX12_asks_217 : decode cX12_asks 217 = .ok (.ireturn, 1) := by decide +kernel
theorem dX12_has_0 : decode cX12_has 0 = .ok (.aload_n 0, 1) := by decide +kernel
theorem dX12_has_1 : decode cX12_has 1 = .ok (.iconst 0, 1) := by decide +kernel
theorem dX12_has_2 : decode cX12_has 2 = .ok (.putfield 268, 3) := by decide +kernel
theorem dX12_has_5 : decode cX12_has 5 = .ok (.aload_n 0, 1) := by decide +kernel
theorem dX12_has_6 : decode cX12_has 6 = .ok (.getfield 428, 3) := by decide +kernel
theorem dX12_has_9 : decode cX12_has 9 = .ok (.ifCond .eq 37, 3) := by decide +kernel
theorem dX12_has_12 : decode cX12_has 12 = .ok (.aload_n 0, 1) := by decide +kernel
theorem dX12_has_13 : decode cX12_has 13 = .ok (.getfield 715, 3) := by decide +kernel
theorem dX12_has_16 : decode cX12_has 16 = .ok (.ifCond .eq 30, 3) := by decide +kernel
theorem dX12_has_19 : decode cX12_has 19 = .ok (.iload_n 1, 1) := by decide +kernel
theorem dX12_has_20 : decode cX12_has 20 = .ok (.i2l, 1) := by decide +kernel
theorem dX12_has_21 : decode cX12_has 21 = .ok (.lconst 0, 1) := by decide +kernel
theorem dX12_has_22 : decode cX12_has 22 = .ok (.iload_n 2, 1) := by decide +kernel
theorem dX12_has_23 : decode cX12_has 23 = .ok (.ifCond .eq 10, 3) := by decide +kernel
theorem dX12_has_26 : decode cX12_has 26 = .ok (.aload_n 0, 1) := by decide +kernel
theorem dX12_has_27 : decode cX12_has 27 = .ok (.getfield 431, 3) := by decide +kernel
theorem dX12_has_30 : decode cX12_has 30 = .ok (.goto 7, 3) := by decide +kernel
theorem dX12_has_33 : decode cX12_has 33 = .ok (.aload_n 0, 1) := by decide +kernel
theorem dX12_has_34 : decode cX12_has 34 = .ok (.getfield 629, 3) := by decide +kernel
theorem dX12_has_37 : decode cX12_has 37 = .ok (.iconst 1, 1) := by decide +kernel
theorem dX12_has_38 : decode cX12_has 38 = .ok (.isub, 1) := by decide +kernel
theorem dX12_has_39 : decode cX12_has 39 = .ok (.i2l, 1) := by decide +kernel
theorem dX12_has_40 : decode cX12_has 40 = .ok (.invokestatic 274, 3) := by decide +kernel
theorem dX12_has_43 : decode cX12_has 43 = .ok (.ifCond .ne 5, 3) := by decide +kernel
theorem dX12_has_46 : decode cX12_has 46 = .ok (.iconst (-1), 1) := by decide +kernel
theorem dX12_has_47 : decode cX12_has 47 = .ok (.ireturn, 1) := by decide +kernel
theorem dX12_has_48 : decode cX12_has 48 = .ok (.iload_n 2, 1) := by decide +kernel
theorem dX12_has_49 : decode cX12_has 49 = .ok (.ifCond .eq 18, 3) := by decide +kernel
theorem dX12_has_52 : decode cX12_has 52 = .ok (.aload_n 0, 1) := by decide +kernel
theorem dX12_has_53 : decode cX12_has 53 = .ok (.iload_n 1, 1) := by decide +kernel
theorem dX12_has_54 : decode cX12_has 54 = .ok (.aload_n 0, 1) := by decide +kernel
theorem dX12_has_55 : decode cX12_has 55 = .ok (.getfield 712, 3) := by decide +kernel
theorem dX12_has_58 : decode cX12_has 58 = .ok (.sipush 264, 3) := by decide +kernel
theorem dX12_has_61 : decode cX12_has 61 = .ok (.invokevirtual 718, 3) := by decide +kernel
theorem dX12_has_64 : decode cX12_has 64 = .ok (.goto 15, 3) := by decide +kernel
theorem dX12_has_67 : decode cX12_has 67 = .ok (.aload_n 0, 1) := by decide +kernel
theorem dX12_has_68 : decode cX12_has 68 = .ok (.iload_n 1, 1) := by decide +kernel
theorem dX12_has_69 : decode cX12_has 69 = .ok (.aload_n 0, 1) := by decide +kernel
theorem dX12_has_70 : decode cX12_has 70 = .ok (.getfield 712, 3) := by decide +kernel
theorem dX12_has_73 : decode cX12_has 73 = .ok (.sipush 264, 3) := by decide +kernel
theorem dX12_has_76 : decode cX12_has 76 = .ok (.invokevirtual 721, 3) := by decide +kernel
theorem dX12_has_79 : decode cX12_has 79 = .ok (.istore_n 3, 1) := by decide +kernel
theorem dX12_has_80 : decode cX12_has 80 = .ok (.iload_n 3, 1) := by decide +kernel
theorem dX12_has_81 : decode cX12_has 81 = .ok (.ifCond .eq 7, 3) := by decide +kernel
theorem dX12_has_84 : decode cX12_has 84 = .ok (.iconst 1, 1) := by decide +kernel
theorem dX12_has_85 : decode cX12_has 85 = .ok (.goto 4, 3) := by decide +kernel
theorem dX12_has_88 : decode cX12_has 88 = .ok (.iconst 0, 1) := by decide +kernel
theorem dX12_has_89 : decode cX12_has 89 = .ok (.ireturn, 1) := by decide +kernel
theorem dX12_own_0 : decode cX12_own 0 = .ok (.aload_n 0, 1) := by decide +kernel
theorem dX12_own_1 : decode cX12_own 1 = .ok (.getfield 724, 3) := by decide +kernel
theorem dX12_own_4 : decode cX12_own 4 = .ok (.aload_n 0, 1) := by decide +kernel
theorem dX12_own_5 : decode cX12_own 5 = .ok (.getfield 57, 3) := by decide +kernel
theorem dX12_own_8 : decode cX12_own 8 = .ok (.aload_n 0, 1) := by decide +kernel
theorem dX12_own_9 : decode cX12_own 9 = .ok (.getfield 66, 3) := by decide +kernel
theorem dX12_own_12 : decode cX12_own 12 = .ok (.iload_n 1, 1) := by decide +kernel
theorem dX12_own_13 : decode cX12_own 13 = .ok (.iaload, 1) := by decide +kernel
theorem dX12_own_14 : decode cX12_own 14 = .ok (.iaload, 1) := by decide +kernel
theorem dX12_own_15 : decode cX12_own 15 = .ok (.ishr, 1) := by decide +kernel
theorem dX12_own_16 : decode cX12_own 16 = .ok (.iconst 1, 1) := by decide +kernel
theorem dX12_own_17 : decode cX12_own 17 = .ok (.iand, 1) := by decide +kernel
theorem dX12_own_18 : decode cX12_own 18 = .ok (.iconst 1, 1) := by decide +kernel
theorem dX12_own_19 : decode cX12_own 19 = .ok (.if_icmp .ne 7, 3) := by decide +kernel
theorem dX12_own_22 : decode cX12_own 22 = .ok (.iconst 1, 1) := by decide +kernel
theorem dX12_own_23 : decode cX12_own 23 = .ok (.goto 4, 3) := by decide +kernel
theorem dX12_own_26 : decode cX12_own 26 = .ok (.iconst 0, 1) := by decide +kernel
theorem dX12_own_27 : decode cX12_own 27 = .ok (.ireturn, 1) := by decide +kernel
theorem dX12_adds_0 : decode cX12_adds 0 = .ok (.iload_n 2, 1) := by decide +kernel
theorem dX12_adds_1 : decode cX12_adds 1 = .ok (.ifCond .eq 7, 3) := by decide +kernel
theorem dX12_adds_4 : decode cX12_adds 4 = .ok (.iconst 1, 1) := by decide +kernel
theorem dX12_adds_5 : decode cX12_adds 5 = .ok (.goto 4, 3) := by decide +kernel
theorem dX12_adds_8 : decode cX12_adds 8 = .ok (.iconst 2, 1) := by decide +kernel
theorem dX12_adds_9 : decode cX12_adds 9 = .ok (.istore_n 3, 1) := by decide +kernel
theorem dX12_adds_10 : decode cX12_adds 10 = .ok (.aload_n 0, 1) := by decide +kernel
theorem dX12_adds_11 : decode cX12_adds 11 = .ok (.getfield 162, 3) := by decide +kernel
theorem dX12_adds_14 : decode cX12_adds 14 = .ok (.iload_n 1, 1) := by decide +kernel
theorem dX12_adds_15 : decode cX12_adds 15 = .ok (.iaload, 1) := by decide +kernel
theorem dX12_adds_16 : decode cX12_adds 16 = .ok (.iload_n 3, 1) := by decide +kernel
theorem dX12_adds_17 : decode cX12_adds 17 = .ok (.iand, 1) := by decide +kernel
theorem dX12_adds_18 : decode cX12_adds 18 = .ok (.ifCond .ne 7, 3) := by decide +kernel
theorem dX12_adds_21 : decode cX12_adds 21 = .ok (.iconst 1, 1) := by decide +kernel
theorem dX12_adds_22 : decode cX12_adds 22 = .ok (.goto 4, 3) := by decide +kernel
theorem dX12_adds_25 : decode cX12_adds 25 = .ok (.iconst 0, 1) := by decide +kernel
theorem dX12_adds_26 : decode cX12_adds 26 = .ok (.istore 4, 2) := by decide +kernel
theorem dX12_adds_28 : decode cX12_adds 28 = .ok (.aload_n 0, 1) := by decide +kernel
theorem dX12_adds_29 : decode cX12_adds 29 = .ok (.getfield 162, 3) := by decide +kernel
theorem dX12_adds_32 : decode cX12_adds 32 = .ok (.iload_n 1, 1) := by decide +kernel
theorem dX12_adds_33 : decode cX12_adds 33 = .ok (.dup2, 1) := by decide +kernel
theorem dX12_adds_34 : decode cX12_adds 34 = .ok (.iaload, 1) := by decide +kernel
theorem dX12_adds_35 : decode cX12_adds 35 = .ok (.iload_n 3, 1) := by decide +kernel
theorem dX12_adds_36 : decode cX12_adds 36 = .ok (.ior, 1) := by decide +kernel
theorem dX12_adds_37 : decode cX12_adds 37 = .ok (.iastore, 1) := by decide +kernel
theorem dX12_adds_38 : decode cX12_adds 38 = .ok (.iload 4, 2) := by decide +kernel
theorem dX12_adds_40 : decode cX12_adds 40 = .ok (.ireturn, 1) := by decide +kernel
theorem dX12_goesOn_0 : decode cX12_goesOn 0 = .ok (.aload_n 0, 1) := by decide +kernel
theorem dX12_goesOn_1 : decode cX12_goesOn 1 = .ok (.getfield 127, 3) := by decide +kernel
theorem dX12_goesOn_4 : decode cX12_goesOn 4 = .ok (.iload_n 1, 1) := by decide +kernel
theorem dX12_goesOn_5 : decode cX12_goesOn 5 = .ok (.iaload, 1) := by decide +kernel
theorem dX12_goesOn_6 : decode cX12_goesOn 6 = .ok (.istore_n 3, 1) := by decide +kernel
theorem dX12_goesOn_7 : decode cX12_goesOn 7 = .ok (.iconst 0, 1) := by decide +kernel
theorem dX12_goesOn_8 : decode cX12_goesOn 8 = .ok (.istore 4, 2) := by decide +kernel
theorem dX12_goesOn_10 : decode cX12_goesOn 10 = .ok (.iload_n 3, 1) := by decide +kernel
theorem dX12_goesOn_11 : decode cX12_goesOn 11 = .ok (.bipush 7, 2) := by decide +kernel
theorem dX12_goesOn_13 : decode cX12_goesOn 13 = .ok (.if_icmp .eq 15, 3) := by decide +kernel
theorem dX12_goesOn_16 : decode cX12_goesOn 16 = .ok (.iload_n 3, 1) := by decide +kernel
theorem dX12_goesOn_17 : decode cX12_goesOn 17 = .ok (.bipush 8, 2) := by decide +kernel
theorem dX12_goesOn_19 : decode cX12_goesOn 19 = .ok (.if_icmp .eq 9, 3) := by decide +kernel
theorem dX12_goesOn_22 : decode cX12_goesOn 22 = .ok (.iload_n 3, 1) := by decide +kernel
theorem dX12_goesOn_23 : decode cX12_goesOn 23 = .ok (.bipush 23, 2) := by decide +kernel
theorem dX12_goesOn_25 : decode cX12_goesOn 25 = .ok (.if_icmp .ne 73, 3) := by decide +kernel
theorem dX12_goesOn_28 : decode cX12_goesOn 28 = .ok (.iconst 0, 1) := by decide +kernel
theorem dX12_goesOn_29 : decode cX12_goesOn 29 = .ok (.istore 5, 2) := by decide +kernel
theorem dX12_goesOn_31 : decode cX12_goesOn 31 = .ok (.iload 5, 2) := by decide +kernel
theorem dX12_goesOn_33 : decode cX12_goesOn 33 = .ok (.aload_n 0, 1) := by decide +kernel
theorem dX12_goesOn_34 : decode cX12_goesOn 34 = .ok (.getfield 437, 3) := by decide +kernel
theorem dX12_goesOn_37 : decode cX12_goesOn 37 = .ok (.if_icmp .ge 58, 3) := by decide +kernel
theorem dX12_goesOn_40 : decode cX12_goesOn 40 = .ok (.aload_n 0, 1) := by decide +kernel
theorem dX12_goesOn_41 : decode cX12_goesOn 41 = .ok (.iload_n 1, 1) := by decide +kernel
theorem dX12_goesOn_42 : decode cX12_goesOn 42 = .ok (.iload 5, 2) := by decide +kernel
theorem dX12_goesOn_44 : decode cX12_goesOn 44 = .ok (.invokevirtual 632, 3) := by decide +kernel
theorem dX12_goesOn_47 : decode cX12_goesOn 47 = .ok (.ifCond .eq 42, 3) := by decide +kernel
theorem dX12_goesOn_50 : decode cX12_goesOn 50 = .ok (.aload_n 0, 1) := by decide +kernel
theorem dX12_goesOn_51 : decode cX12_goesOn 51 = .ok (.iload 5, 2) := by decide +kernel
theorem dX12_goesOn_53 : decode cX12_goesOn 53 = .ok (.iload_n 2, 1) := by decide +kernel
theorem dX12_goesOn_54 : decode cX12_goesOn 54 = .ok (.ifCond .eq 16, 3) := by decide +kernel
theorem dX12_goesOn_57 : decode cX12_goesOn 57 = .ok (.aload_n 0, 1) := by decide +kernel
theorem dX12_goesOn_58 : decode cX12_goesOn 58 = .ok (.iload 5, 2) := by decide +kernel
theorem dX12_goesOn_60 : decode cX12_goesOn 60 = .ok (.invokevirtual 727, 3) := by decide +kernel
theorem dX12_goesOn_63 : decode cX12_goesOn 63 = .ok (.ifCond .eq 7, 3) := by decide +kernel
theorem dX12_goesOn_66 : decode cX12_goesOn 66 = .ok (.iconst 1, 1) := by decide +kernel
theorem dX12_goesOn_67 : decode cX12_goesOn 67 = .ok (.goto 4, 3) := by decide +kernel
theorem dX12_goesOn_70 : decode cX12_goesOn 70 = .ok (.iconst 0, 1) := by decide +kernel
theorem dX12_goesOn_71 : decode cX12_goesOn 71 = .ok (.invokevirtual 730, 3) := by decide +kernel
theorem dX12_goesOn_74 : decode cX12_goesOn 74 = .ok (.ifCond .ne 8, 3) := by decide +kernel
theorem dX12_goesOn_77 : decode cX12_goesOn 77 = .ok (.iload 4, 2) := by decide +kernel
theorem dX12_goesOn_79 : decode cX12_goesOn 79 = .ok (.ifCond .eq 7, 3) := by decide +kernel
theorem dX12_goesOn_82 : decode cX12_goesOn 82 = .ok (.iconst 1, 1) := by decide +kernel
theorem dX12_goesOn_83 : decode cX12_goesOn 83 = .ok (.goto 4, 3) := by decide +kernel
theorem dX12_goesOn_86 : decode cX12_goesOn 86 = .ok (.iconst 0, 1) := by decide +kernel
theorem dX12_goesOn_87 : decode cX12_goesOn 87 = .ok (.istore 4, 2) := by decide +kernel
theorem dX12_goesOn_89 : decode cX12_goesOn 89 = .ok (.iinc 5 1, 3) := by decide +kernel
theorem dX12_goesOn_92 : decode cX12_goesOn 92 = .ok (.goto (-61), 3) := by decide +kernel
theorem dX12_goesOn_95 : decode cX12_goesOn 95 = .ok (.goto 215, 3) := by decide +kernel
theorem dX12_goesOn_98 : decode cX12_goesOn 98 = .ok (.iload_n 3, 1) := by decide +kernel
theorem dX12_goesOn_99 : decode cX12_goesOn 99 = .ok (.bipush 27, 2) := by decide +kernel
theorem dX12_goesOn_101 : decode cX12_goesOn 101 = .ok (.if_icmp .ne 45, 3) := by decide +kernel
theorem dX12_goesOn_104 : decode cX12_goesOn 104 = .ok (.iload_n 2, 1) := by decide +kernel
theorem dX12_goesOn_105 : decode cX12_goesOn 105 = .ok (.ifCond .eq 7, 3) := by decide +kernel
theorem dX12_goesOn_108 : decode cX12_goesOn 108 = .ok (.iconst 1, 1) := by decide +kernel
theorem dX12_goesOn_109 : decode cX12_goesOn 109 = .ok (.goto 4, 3) := by decide +kernel
theorem dX12_goesOn_112 : decode cX12_goesOn 112 = .ok (.iconst 2, 1) := by decide +kernel
theorem dX12_goesOn_113 : decode cX12_goesOn 113 = .ok (.istore 5, 2) := by decide +kernel
theorem dX12_goesOn_115 : decode cX12_goesOn 115 = .ok (.aload_n 0, 1) := by decide +kernel
theorem dX12_goesOn_116 : decode cX12_goesOn 116 = .ok (.getfield 734, 3) := by decide +kernel
theorem dX12_goesOn_119 : decode cX12_goesOn 119 = .ok (.iload 5, 2) := by decide +kernel
theorem dX12_goesOn_121 : decode cX12_goesOn 121 = .ok (.iand, 1) := by decide +kernel
theorem dX12_goesOn_122 : decode cX12_goesOn 122 = .ok (.ifCond .ne 7, 3) := by decide +kernel
theorem dX12_goesOn_125 : decode cX12_goesOn 125 = .ok (.iconst 1, 1) := by decide +kernel
theorem dX12_goesOn_126 : decode cX12_goesOn 126 = .ok (.goto 4, 3) := by decide +kernel
theorem dX12_goesOn_129 : decode cX12_goesOn 129 = .ok (.iconst 0, 1) := by decide +kernel
theorem dX12_goesOn_130 : decode cX12_goesOn 130 = .ok (.istore 4, 2) := by decide +kernel
theorem dX12_goesOn_132 : decode cX12_goesOn 132 = .ok (.aload_n 0, 1) := by decide +kernel
theorem dX12_goesOn_133 : decode cX12_goesOn 133 = .ok (.dup, 1) := by decide +kernel
theorem dX12_goesOn_134 : decode cX12_goesOn 134 = .ok (.getfield 734, 3) := by decide +kernel
theorem dX12_goesOn_137 : decode cX12_goesOn 137 = .ok (.iload 5, 2) := by decide +kernel
theorem dX12_goesOn_139 : decode cX12_goesOn 139 = .ok (.ior, 1) := by decide +kernel
theorem dX12_goesOn_140 : decode cX12_goesOn 140 = .ok (.putfield 734, 3) := by decide +kernel
theorem dX12_goesOn_143 : decode cX12_goesOn 143 = .ok (.goto 167, 3) := by decide +kernel
theorem dX12_goesOn_146 : decode cX12_goesOn 146 = .ok (.iload_n 3, 1) := by decide +kernel
theorem dX12_goesOn_147 : decode cX12_goesOn 147 = .ok (.bipush 10, 2) := by decide +kernel
theorem dX12_goesOn_149 : decode cX12_goesOn 149 = .ok (.if_icmp .ne 161, 3) := by decide +kernel
theorem dX12_goesOn_152 : decode cX12_goesOn 152 = .ok (.aload_n 0, 1) := by decide +kernel
theorem dX12_goesOn_153 : decode cX12_goesOn 153 = .ok (.getfield 133, 3) := by decide +kernel
theorem dX12_goesOn_156 : decode cX12_goesOn 156 = .ok (.iload_n 1, 1) := by decide +kernel
theorem dX12_goesOn_157 : decode cX12_goesOn 157 = .ok (.iaload, 1) := by decide +kernel
theorem dX12_goesOn_158 : decode cX12_goesOn 158 = .ok (.istore 5, 2) := by decide +kernel
theorem dX12_goesOn_160 : decode cX12_goesOn 160 = .ok (.aload_n 0, 1) := by decide +kernel
theorem dX12_goesOn_161 : decode cX12_goesOn 161 = .ok (.getfield 63, 3) := by decide +kernel
theorem dX12_goesOn_164 : decode cX12_goesOn 164 = .ok (.iload 5, 2) := by decide +kernel
theorem dX12_goesOn_166 : decode cX12_goesOn 166 = .ok (.iaload, 1) := by decide +kernel
theorem dX12_goesOn_167 : decode cX12_goesOn 167 = .ok (.iconst 4, 1) := by decide +kernel
theorem dX12_goesOn_168 : decode cX12_goesOn 168 = .ok (.if_icmp .ne 72, 3) := by decide +kernel
theorem dX12_goesOn_171 : decode cX12_goesOn 171 = .ok (.iconst 1, 1) := by decide +kernel
theorem dX12_goesOn_172 : decode cX12_goesOn 172 = .ok (.istore 6, 2) := by decide +kernel
theorem dX12_goesOn_174 : decode cX12_goesOn 174 = .ok (.iload 6, 2) := by decide +kernel
theorem dX12_goesOn_176 : decode cX12_goesOn 176 = .ok (.iconst 3, 1) := by decide +kernel
theorem dX12_goesOn_177 : decode cX12_goesOn 177 = .ok (.if_icmp .ge 60, 3) := by decide +kernel
theorem dX12_goesOn_180 : decode cX12_goesOn 180 = .ok (.aload_n 0, 1) := by decide +kernel
theorem dX12_goesOn_181 : decode cX12_goesOn 181 = .ok (.getfield 734, 3) := by decide +kernel
theorem dX12_goesOn_184 : decode cX12_goesOn 184 = .ok (.iload 6, 2) := by decide +kernel
theorem dX12_goesOn_186 : decode cX12_goesOn 186 = .ok (.iand, 1) := by decide +kernel
theorem dX12_goesOn_187 : decode cX12_goesOn 187 = .ok (.ifCond .eq 32, 3) := by decide +kernel
theorem dX12_goesOn_190 : decode cX12_goesOn 190 = .ok (.aload_n 0, 1) := by decide +kernel
theorem dX12_goesOn_191 : decode cX12_goesOn 191 = .ok (.iload 5, 2) := by decide +kernel
theorem dX12_goesOn_193 : decode cX12_goesOn 193 = .ok (.iload 6, 2) := by decide +kernel
theorem dX12_goesOn_195 : decode cX12_goesOn 195 = .ok (.iconst 1, 1) := by decide +kernel
theorem dX12_goesOn_196 : decode cX12_goesOn 196 = .ok (.if_icmp .ne 16, 3) := by decide +kernel
theorem dX12_goesOn_199 : decode cX12_goesOn 199 = .ok (.aload_n 0, 1) := by decide +kernel
theorem dX12_goesOn_200 : decode cX12_goesOn 200 = .ok (.iload 5, 2) := by decide +kernel
theorem dX12_goesOn_202 : decode cX12_goesOn 202 = .ok (.invokevirtual 727, 3) := by decide +kernel
theorem dX12_goesOn_205 : decode cX12_goesOn 205 = .ok (.ifCond .eq 7, 3) := by decide +kernel
theorem dX12_goesOn_208 : decode cX12_goesOn 208 = .ok (.iconst 1, 1) := by decide +kernel
theorem dX12_goesOn_209 : decode cX12_goesOn 209 = .ok (.goto 4, 3) := by decide +kernel
theorem dX12_goesOn_212 : decode cX12_goesOn 212 = .ok (.iconst 0, 1) := by decide +kernel
theorem dX12_goesOn_213 : decode cX12_goesOn 213 = .ok (.invokevirtual 730, 3) := by decide +kernel
theorem dX12_goesOn_216 : decode cX12_goesOn 216 = .ok (.ifCond .ne 8, 3) := by decide +kernel
theorem dX12_goesOn_219 : decode cX12_goesOn 219 = .ok (.iload 4, 2) := by decide +kernel
theorem dX12_goesOn_221 : decode cX12_goesOn 221 = .ok (.ifCond .eq 7, 3) := by decide +kernel
theorem dX12_goesOn_224 : decode cX12_goesOn 224 = .ok (.iconst 1, 1) := by decide +kernel
theorem dX12_goesOn_225 : decode cX12_goesOn 225 = .ok (.goto 4, 3) := by decide +kernel
theorem dX12_goesOn_228 : decode cX12_goesOn 228 = .ok (.iconst 0, 1) := by decide +kernel
theorem dX12_goesOn_229 : decode cX12_goesOn 229 = .ok (.istore 4, 2) := by decide +kernel
theorem dX12_goesOn_231 : decode cX12_goesOn 231 = .ok (.iinc 6 1, 3) := by decide +kernel
theorem dX12_goesOn_234 : decode cX12_goesOn 234 = .ok (.goto (-60), 3) := by decide +kernel
theorem dX12_goesOn_237 : decode cX12_goesOn 237 = .ok (.goto 73, 3) := by decide +kernel
theorem dX12_goesOn_240 : decode cX12_goesOn 240 = .ok (.aload_n 0, 1) := by decide +kernel
theorem dX12_goesOn_241 : decode cX12_goesOn 241 = .ok (.getfield 63, 3) := by decide +kernel
theorem dX12_goesOn_244 : decode cX12_goesOn 244 = .ok (.iload 5, 2) := by decide +kernel
theorem dX12_goesOn_246 : decode cX12_goesOn 246 = .ok (.iaload, 1) := by decide +kernel
theorem dX12_goesOn_247 : decode cX12_goesOn 247 = .ok (.iconst 2, 1) := by decide +kernel
theorem dX12_goesOn_248 : decode cX12_goesOn 248 = .ok (.if_icmp .eq 28, 3) := by decide +kernel
theorem dX12_goesOn_251 : decode cX12_goesOn 251 = .ok (.iload_n 2, 1) := by decide +kernel
theorem dX12_goesOn_252 : decode cX12_goesOn 252 = .ok (.ifCond .ne 24, 3) := by decide +kernel
theorem dX12_goesOn_255 : decode cX12_goesOn 255 = .ok (.aload_n 0, 1) := by decide +kernel
theorem dX12_goesOn_256 : decode cX12_goesOn 256 = .ok (.getfield 724, 3) := by decide +kernel
theorem dX12_goesOn_259 : decode cX12_goesOn 259 = .ok (.bipush 8, 2) := by decide +kernel
theorem dX12_goesOn_261 : decode cX12_goesOn 261 = .ok (.aload_n 0, 1) := by decide +kernel
theorem dX12_goesOn_262 : decode cX12_goesOn 262 = .ok (.getfield 81, 3) := by decide +kernel
theorem dX12_goesOn_265 : decode cX12_goesOn 265 = .ok (.iload 5, 2) := by decide +kernel
theorem dX12_goesOn_267 : decode cX12_goesOn 267 = .ok (.iaload, 1) := by decide +kernel
theorem dX12_goesOn_268 : decode cX12_goesOn 268 = .ok (.iadd, 1) := by decide +kernel
theorem dX12_goesOn_269 : decode cX12_goesOn 269 = .ok (.ishr, 1) := by decide +kernel
theorem dX12_goesOn_270 : decode cX12_goesOn 270 = .ok (.iconst 1, 1) := by decide +kernel
theorem dX12_goesOn_271 : decode cX12_goesOn 271 = .ok (.iand, 1) := by decide +kernel
theorem dX12_goesOn_272 : decode cX12_goesOn 272 = .ok (.iconst 1, 1) := by decide +kernel
theorem dX12_goesOn_273 : decode cX12_goesOn 273 = .ok (.if_icmp .ne 7, 3) := by decide +kernel
theorem dX12_goesOn_276 : decode cX12_goesOn 276 = .ok (.iconst 1, 1) := by decide +kernel
theorem dX12_goesOn_277 : decode cX12_goesOn 277 = .ok (.goto 4, 3) := by decide +kernel
theorem dX12_goesOn_280 : decode cX12_goesOn 280 = .ok (.iconst 0, 1) := by decide +kernel
theorem dX12_goesOn_281 : decode cX12_goesOn 281 = .ok (.istore 6, 2) := by decide +kernel
theorem dX12_goesOn_283 : decode cX12_goesOn 283 = .ok (.aload_n 0, 1) := by decide +kernel
theorem dX12_goesOn_284 : decode cX12_goesOn 284 = .ok (.iload 5, 2) := by decide +kernel
theorem dX12_goesOn_286 : decode cX12_goesOn 286 = .ok (.iload 6, 2) := by decide +kernel
theorem dX12_goesOn_288 : decode cX12_goesOn 288 = .ok (.ifCond .eq 16, 3) := by decide +kernel
theorem dX12_goesOn_291 : decode cX12_goesOn 291 = .ok (.aload_n 0, 1) := by decide +kernel
theorem dX12_goesOn_292 : decode cX12_goesOn 292 = .ok (.iload 5, 2) := by decide +kernel
theorem dX12_goesOn_294 : decode cX12_goesOn 294 = .ok (.invokevirtual 727, 3) := by decide +kernel
theorem dX12_goesOn_297 : decode cX12_goesOn 297 = .ok (.ifCond .eq 7, 3) := by decide +kernel
theorem dX12_goesOn_300 : decode cX12_goesOn 300 = .ok (.iconst 1, 1) := by decide +kernel
theorem dX12_goesOn_301 : decode cX12_goesOn 301 = .ok (.goto 4, 3) := by decide +kernel
theorem dX12_goesOn_304 : decode cX12_goesOn 304 = .ok (.iconst 0, 1) := by decide +kernel
theorem dX12_goesOn_305 : decode cX12_goesOn 305 = .ok (.invokevirtual 730, 3) := by decide +kernel
theorem dX12_goesOn_308 : decode cX12_goesOn 308 = .ok (.istore 4, 2) := by decide +kernel
theorem dX12_goesOn_310 : decode cX12_goesOn 310 = .ok (.iload 4, 2) := by decide +kernel
theorem dX12_goesOn_312 : decode cX12_goesOn 312 = .ok (.ireturn, 1) := by decide +kernel
theorem dX12_may_0 : decode cX12_may 0 = .ok (.aload_n 0, 1) := by decide +kernel
theorem dX12_may_1 : decode cX12_may 1 = .ok (.iconst 0, 1) := by decide +kernel
theorem dX12_may_2 : decode cX12_may 2 = .ok (.putfield 268, 3) := by decide +kernel
theorem dX12_may_5 : decode cX12_may 5 = .ok (.aload_n 0, 1) := by decide +kernel
theorem dX12_may_6 : decode cX12_may 6 = .ok (.iload_n 1, 1) := by decide +kernel
theorem dX12_may_7 : decode cX12_may 7 = .ok (.invokevirtual 709, 3) := by decide +kernel
theorem dX12_may_10 : decode cX12_may 10 = .ok (.ifCond .eq 10, 3) := by decide +kernel
theorem dX12_may_13 : decode cX12_may 13 = .ok (.aload_n 0, 1) := by decide +kernel
theorem dX12_may_14 : decode cX12_may 14 = .ok (.getfield 715, 3) := by decide +kernel
theorem dX12_may_17 : decode cX12_may 17 = .ok (.ifCond .ne 5, 3) := by decide +kernel
theorem dX12_may_20 : decode cX12_may 20 = .ok (.iconst (-1), 1) := by decide +kernel
theorem dX12_may_21 : decode cX12_may 21 = .ok (.ireturn, 1) := by decide +kernel
theorem dX12_may_22 : decode cX12_may 22 = .ok (.aload_n 0, 1) := by decide +kernel
theorem dX12_may_23 : decode cX12_may 23 = .ok (.iconst 0, 1) := by decide +kernel
theorem dX12_may_24 : decode cX12_may 24 = .ok (.putfield 734, 3) := by decide +kernel
theorem dX12_may_27 : decode cX12_may 27 = .ok (.aload_n 0, 1) := by decide +kernel
theorem dX12_may_28 : decode cX12_may 28 = .ok (.aload_n 0, 1) := by decide +kernel
theorem dX12_may_29 : decode cX12_may 29 = .ok (.aload_n 0, 1) := by decide +kernel
theorem dX12_may_30 : decode cX12_may 30 = .ok (.getfield 712, 3) := by decide +kernel
theorem dX12_may_33 : decode cX12_may 33 = .ok (.sipush 264, 3) := by decide +kernel
theorem dX12_may_36 : decode cX12_may 36 = .ok (.invokevirtual 737, 3) := by decide +kernel
theorem dX12_may_39 : decode cX12_may 39 = .ok (.putfield 724, 3) := by decide +kernel
theorem dX12_may_42 : decode cX12_may 42 = .ok (.iconst 0, 1) := by decide +kernel
theorem dX12_may_43 : decode cX12_may 43 = .ok (.istore_n 2, 1) := by decide +kernel
theorem dX12_may_44 : decode cX12_may 44 = .ok (.iload_n 2, 1) := by decide +kernel
theorem dX12_may_45 : decode cX12_may 45 = .ok (.aload_n 0, 1) := by decide +kernel
theorem dX12_may_46 : decode cX12_may 46 = .ok (.getfield 437, 3) := by decide +kernel
theorem dX12_may_49 : decode cX12_may 49 = .ok (.if_icmp .ge 16, 3) := by decide +kernel
theorem dX12_may_52 : decode cX12_may 52 = .ok (.aload_n 0, 1) := by decide +kernel
theorem dX12_may_53 : decode cX12_may 53 = .ok (.getfield 162, 3) := by decide +kernel
theorem dX12_may_56 : decode cX12_may 56 = .ok (.iload_n 2, 1) := by decide +kernel
theorem dX12_may_57 : decode cX12_may 57 = .ok (.iconst 0, 1) := by decide +kernel
theorem dX12_may_58 : decode cX12_may 58 = .ok (.iastore, 1) := by decide +kernel
theorem dX12_may_59 : decode cX12_may 59 = .ok (.iinc 2 1, 3) := by decide +kernel
theorem dX12_may_62 : decode cX12_may 62 = .ok (.goto (-18), 3) := by decide +kernel
theorem dX12_may_65 : decode cX12_may 65 = .ok (.iconst 0, 1) := by decide +kernel
theorem dX12_may_66 : decode cX12_may 66 = .ok (.istore_n 2, 1) := by decide +kernel
theorem dX12_may_67 : decode cX12_may 67 = .ok (.iload_n 2, 1) := by decide +kernel
theorem dX12_may_68 : decode cX12_may 68 = .ok (.aload_n 0, 1) := by decide +kernel
theorem dX12_may_69 : decode cX12_may 69 = .ok (.getfield 437, 3) := by decide +kernel
theorem dX12_may_72 : decode cX12_may 72 = .ok (.if_icmp .ge 38, 3) := by decide +kernel
theorem dX12_may_75 : decode cX12_may 75 = .ok (.aload_n 0, 1) := by decide +kernel
theorem dX12_may_76 : decode cX12_may 76 = .ok (.getfield 63, 3) := by decide +kernel
theorem dX12_may_79 : decode cX12_may 79 = .ok (.iload_n 2, 1) := by decide +kernel
theorem dX12_may_80 : decode cX12_may 80 = .ok (.iaload, 1) := by decide +kernel
theorem dX12_may_81 : decode cX12_may 81 = .ok (.ifCond .ne 23, 3) := by decide +kernel
theorem dX12_may_84 : decode cX12_may 84 = .ok (.aload_n 0, 1) := by decide +kernel
theorem dX12_may_85 : decode cX12_may 85 = .ok (.getfield 72, 3) := by decide +kernel
theorem dX12_may_88 : decode cX12_may 88 = .ok (.iload_n 2, 1) := by decide +kernel
theorem dX12_may_89 : decode cX12_may 89 = .ok (.iaload, 1) := by decide +kernel
theorem dX12_may_90 : decode cX12_may 90 = .ok (.ifCond .ne 14, 3) := by decide +kernel
theorem dX12_may_93 : decode cX12_may 93 = .ok (.aload_n 0, 1) := by decide +kernel
theorem dX12_may_94 : decode cX12_may 94 = .ok (.iload_n 2, 1) := by decide +kernel
theorem dX12_may_95 : decode cX12_may 95 = .ok (.aload_n 0, 1) := by decide +kernel
theorem dX12_may_96 : decode cX12_may 96 = .ok (.iload_n 2, 1) := by decide +kernel
theorem dX12_may_97 : decode cX12_may 97 = .ok (.invokevirtual 727, 3) := by decide +kernel
theorem dX12_may_100 : decode cX12_may 100 = .ok (.invokevirtual 730, 3) := by decide +kernel
theorem dX12_may_103 : decode cX12_may 103 = .ok (.istore_n 3, 1) := by decide +kernel
theorem dX12_may_104 : decode cX12_may 104 = .ok (.iinc 2 1, 3) := by decide +kernel
theorem dX12_may_107 : decode cX12_may 107 = .ok (.goto (-40), 3) := by decide +kernel
theorem dX12_may_110 : decode cX12_may 110 = .ok (.iconst 1, 1) := by decide +kernel
theorem dX12_may_111 : decode cX12_may 111 = .ok (.istore_n 2, 1) := by decide +kernel
theorem dX12_may_112 : decode cX12_may 112 = .ok (.iload_n 2, 1) := by decide +kernel
theorem dX12_may_113 : decode cX12_may 113 = .ok (.ifCond .eq 85, 3) := by decide +kernel
theorem dX12_may_116 : decode cX12_may 116 = .ok (.iconst 0, 1) := by decide +kernel
theorem dX12_may_117 : decode cX12_may 117 = .ok (.istore_n 2, 1) := by decide +kernel
theorem dX12_may_118 : decode cX12_may 118 = .ok (.iconst 0, 1) := by decide +kernel
theorem dX12_may_119 : decode cX12_may 119 = .ok (.istore_n 3, 1) := by decide +kernel
theorem dX12_may_120 : decode cX12_may 120 = .ok (.iload_n 3, 1) := by decide +kernel
theorem dX12_may_121 : decode cX12_may 121 = .ok (.aload_n 0, 1) := by decide +kernel
theorem dX12_may_122 : decode cX12_may 122 = .ok (.getfield 418, 3) := by decide +kernel
theorem dX12_may_125 : decode cX12_may 125 = .ok (.if_icmp .ge 70, 3) := by decide +kernel
theorem dX12_may_128 : decode cX12_may 128 = .ok (.iconst 1, 1) := by decide +kernel
theorem dX12_may_129 : decode cX12_may 129 = .ok (.istore 4, 2) := by decide +kernel
theorem dX12_may_131 : decode cX12_may 131 = .ok (.iload 4, 2) := by decide +kernel
theorem dX12_may_133 : decode cX12_may 133 = .ok (.iconst 3, 1) := by decide +kernel
theorem dX12_may_134 : decode cX12_may 134 = .ok (.if_icmp .ge 55, 3) := by decide +kernel
theorem dX12_may_137 : decode cX12_may 137 = .ok (.aload_n 0, 1) := by decide +kernel
theorem dX12_may_138 : decode cX12_may 138 = .ok (.getfield 162, 3) := by decide +kernel
theorem dX12_may_141 : decode cX12_may 141 = .ok (.aload_n 0, 1) := by decide +kernel
theorem dX12_may_142 : decode cX12_may 142 = .ok (.getfield 130, 3) := by decide +kernel
theorem dX12_may_145 : decode cX12_may 145 = .ok (.iload_n 3, 1) := by decide +kernel
theorem dX12_may_146 : decode cX12_may 146 = .ok (.iaload, 1) := by decide +kernel
theorem dX12_may_147 : decode cX12_may 147 = .ok (.iaload, 1) := by decide +kernel
theorem dX12_may_148 : decode cX12_may 148 = .ok (.iload 4, 2) := by decide +kernel
theorem dX12_may_150 : decode cX12_may 150 = .ok (.iand, 1) := by decide +kernel
theorem dX12_may_151 : decode cX12_may 151 = .ok (.ifCond .eq 32, 3) := by decide +kernel
theorem dX12_may_154 : decode cX12_may 154 = .ok (.aload_n 0, 1) := by decide +kernel
theorem dX12_may_155 : decode cX12_may 155 = .ok (.iload_n 3, 1) := by decide +kernel
theorem dX12_may_156 : decode cX12_may 156 = .ok (.iload 4, 2) := by decide +kernel
theorem dX12_may_158 : decode cX12_may 158 = .ok (.iconst 1, 1) := by decide +kernel
theorem dX12_may_159 : decode cX12_may 159 = .ok (.if_icmp .ne 7, 3) := by decide +kernel
theorem dX12_may_162 : decode cX12_may 162 = .ok (.iconst 1, 1) := by decide +kernel
theorem dX12_may_163 : decode cX12_may 163 = .ok (.goto 4, 3) := by decide +kernel
theorem dX12_may_166 : decode cX12_may 166 = .ok (.iconst 0, 1) := by decide +kernel
theorem dX12_may_167 : decode cX12_may 167 = .ok (.invokevirtual 741, 3) := by decide +kernel
theorem dX12_may_170 : decode cX12_may 170 = .ok (.ifCond .ne 7, 3) := by decide +kernel
theorem dX12_may_173 : decode cX12_may 173 = .ok (.iload_n 2, 1) := by decide +kernel
theorem dX12_may_174 : decode cX12_may 174 = .ok (.ifCond .eq 7, 3) := by decide +kernel
theorem dX12_may_177 : decode cX12_may 177 = .ok (.iconst 1, 1) := by decide +kernel
theorem dX12_may_178 : decode cX12_may 178 = .ok (.goto 4, 3) := by decide +kernel
theorem dX12_may_181 : decode cX12_may 181 = .ok (.iconst 0, 1) := by decide +kernel
theorem dX12_may_182 : decode cX12_may 182 = .ok (.istore_n 2, 1) := by decide +kernel
theorem dX12_may_183 : decode cX12_may 183 = .ok (.iinc 4 1, 3) := by decide +kernel
theorem dX12_may_186 : decode cX12_may 186 = .ok (.goto (-55), 3) := by decide +kernel
theorem dX12_may_189 : decode cX12_may 189 = .ok (.iinc 3 1, 3) := by decide +kernel
theorem dX12_may_192 : decode cX12_may 192 = .ok (.goto (-72), 3) := by decide +kernel
theorem dX12_may_195 : decode cX12_may 195 = .ok (.goto (-83), 3) := by decide +kernel
theorem dX12_may_198 : decode cX12_may 198 = .ok (.aload_n 0, 1) := by decide +kernel
theorem dX12_may_199 : decode cX12_may 199 = .ok (.getfield 162, 3) := by decide +kernel
theorem dX12_may_202 : decode cX12_may 202 = .ok (.iload_n 1, 1) := by decide +kernel
theorem dX12_may_203 : decode cX12_may 203 = .ok (.iaload, 1) := by decide +kernel
theorem dX12_may_204 : decode cX12_may 204 = .ok (.ireturn, 1) := by decide +kernel
theorem dX12_addProduct_0 : decode cX12_addProduct 0 = .ok (.iconst 0, 1) := by decide +kernel
theorem dX12_addProduct_1 : decode cX12_addProduct 1 = .ok (.istore_n 2, 1) := by decide +kernel
theorem dX12_addProduct_2 : decode cX12_addProduct 2 = .ok (.iload_n 2, 1) := by decide +kernel
theorem dX12_addProduct_3 : decode cX12_addProduct 3 = .ok (.aload_n 0, 1) := by decide +kernel
theorem dX12_addProduct_4 : decode cX12_addProduct 4 = .ok (.getfield 744, 3) := by decide +kernel
theorem dX12_addProduct_7 : decode cX12_addProduct 7 = .ok (.if_icmp .ge 27, 3) := by decide +kernel
theorem dX12_addProduct_10 : decode cX12_addProduct 10 = .ok (.aload_n 0, 1) := by decide +kernel
theorem dX12_addProduct_11 : decode cX12_addProduct 11 = .ok (.getfield 262, 3) := by decide +kernel
theorem dX12_addProduct_14 : decode cX12_addProduct 14 = .ok (.iload_n 2, 1) := by decide +kernel
theorem dX12_addProduct_15 : decode cX12_addProduct 15 = .ok (.iaload, 1) := by decide +kernel
theorem dX12_addProduct_16 : decode cX12_addProduct 16 = .ok (.iload_n 1, 1) := by decide +kernel
theorem dX12_addProduct_17 : decode cX12_addProduct 17 = .ok (.iand, 1) := by decide +kernel
theorem dX12_addProduct_18 : decode cX12_addProduct 18 = .ok (.aload_n 0, 1) := by decide +kernel
theorem dX12_addProduct_19 : decode cX12_addProduct 19 = .ok (.getfield 262, 3) := by decide +kernel
theorem dX12_addProduct_22 : decode cX12_addProduct 22 = .ok (.iload_n 2, 1) := by decide +kernel
theorem dX12_addProduct_23 : decode cX12_addProduct 23 = .ok (.iaload, 1) := by decide +kernel
theorem dX12_addProduct_24 : decode cX12_addProduct 24 = .ok (.if_icmp .ne 4, 3) := by decide +kernel
theorem dX12_addProduct_27 : decode cX12_addProduct 27 = .ok (.return_, 1) := by decide +kernel
theorem dX12_addProduct_28 : decode cX12_addProduct 28 = .ok (.iinc 2 1, 3) := by decide +kernel
theorem dX12_addProduct_31 : decode cX12_addProduct 31 = .ok (.goto (-29), 3) := by decide +kernel
theorem dX12_addProduct_34 : decode cX12_addProduct 34 = .ok (.iconst 0, 1) := by decide +kernel
theorem dX12_addProduct_35 : decode cX12_addProduct 35 = .ok (.istore_n 2, 1) := by decide +kernel
theorem dX12_addProduct_36 : decode cX12_addProduct 36 = .ok (.iconst 0, 1) := by decide +kernel
theorem dX12_addProduct_37 : decode cX12_addProduct 37 = .ok (.istore_n 3, 1) := by decide +kernel
theorem dX12_addProduct_38 : decode cX12_addProduct 38 = .ok (.iload_n 3, 1) := by decide +kernel
theorem dX12_addProduct_39 : decode cX12_addProduct 39 = .ok (.aload_n 0, 1) := by decide +kernel
theorem dX12_addProduct_40 : decode cX12_addProduct 40 = .ok (.getfield 744, 3) := by decide +kernel
theorem dX12_addProduct_43 : decode cX12_addProduct 43 = .ok (.if_icmp .ge 36, 3) := by decide +kernel
theorem dX12_addProduct_46 : decode cX12_addProduct 46 = .ok (.aload_n 0, 1) := by decide +kernel
theorem dX12_addProduct_47 : decode cX12_addProduct 47 = .ok (.getfield 262, 3) := by decide +kernel
theorem dX12_addProduct_50 : decode cX12_addProduct 50 = .ok (.iload_n 3, 1) := by decide +kernel
theorem dX12_addProduct_51 : decode cX12_addProduct 51 = .ok (.iaload, 1) := by decide +kernel
theorem dX12_addProduct_52 : decode cX12_addProduct 52 = .ok (.iload_n 1, 1) := by decide +kernel
theorem dX12_addProduct_53 : decode cX12_addProduct 53 = .ok (.iand, 1) := by decide +kernel
theorem dX12_addProduct_54 : decode cX12_addProduct 54 = .ok (.iload_n 1, 1) := by decide +kernel
theorem dX12_addProduct_55 : decode cX12_addProduct 55 = .ok (.if_icmp .eq 18, 3) := by decide +kernel
theorem dX12_addProduct_58 : decode cX12_addProduct 58 = .ok (.aload_n 0, 1) := by decide +kernel
theorem dX12_addProduct_59 : decode cX12_addProduct 59 = .ok (.getfield 262, 3) := by decide +kernel
theorem dX12_addProduct_62 : decode cX12_addProduct 62 = .ok (.iload_n 2, 1) := by decide +kernel
theorem dX12_addProduct_63 : decode cX12_addProduct 63 = .ok (.aload_n 0, 1) := by decide +kernel
theorem dX12_addProduct_64 : decode cX12_addProduct 64 = .ok (.getfield 262, 3) := by decide +kernel
theorem dX12_addProduct_67 : decode cX12_addProduct 67 = .ok (.iload_n 3, 1) := by decide +kernel
theorem dX12_addProduct_68 : decode cX12_addProduct 68 = .ok (.iaload, 1) := by decide +kernel
theorem dX12_addProduct_69 : decode cX12_addProduct 69 = .ok (.iastore, 1) := by decide +kernel
theorem dX12_addProduct_70 : decode cX12_addProduct 70 = .ok (.iinc 2 1, 3) := by decide +kernel
theorem dX12_addProduct_73 : decode cX12_addProduct 73 = .ok (.iinc 3 1, 3) := by decide +kernel
theorem dX12_addProduct_76 : decode cX12_addProduct 76 = .ok (.goto (-38), 3) := by decide +kernel
theorem dX12_addProduct_79 : decode cX12_addProduct 79 = .ok (.iload_n 2, 1) := by decide +kernel
theorem dX12_addProduct_80 : decode cX12_addProduct 80 = .ok (.istore_n 3, 1) := by decide +kernel
theorem dX12_addProduct_81 : decode cX12_addProduct 81 = .ok (.iload_n 3, 1) := by decide +kernel
theorem dX12_addProduct_82 : decode cX12_addProduct 82 = .ok (.ifCond .le 35, 3) := by decide +kernel
theorem dX12_addProduct_85 : decode cX12_addProduct 85 = .ok (.aload_n 0, 1) := by decide +kernel
theorem dX12_addProduct_86 : decode cX12_addProduct 86 = .ok (.getfield 262, 3) := by decide +kernel
theorem dX12_addProduct_89 : decode cX12_addProduct 89 = .ok (.iload_n 3, 1) := by decide +kernel
theorem dX12_addProduct_90 : decode cX12_addProduct 90 = .ok (.iconst 1, 1) := by decide +kernel
theorem dX12_addProduct_91 : decode cX12_addProduct 91 = .ok (.isub, 1) := by decide +kernel
theorem dX12_addProduct_92 : decode cX12_addProduct 92 = .ok (.iaload, 1) := by decide +kernel
theorem dX12_addProduct_93 : decode cX12_addProduct 93 = .ok (.iload_n 1, 1) := by decide +kernel
theorem dX12_addProduct_94 : decode cX12_addProduct 94 = .ok (.if_icmp .le 23, 3) := by decide +kernel
theorem dX12_addProduct_97 : decode cX12_addProduct 97 = .ok (.aload_n 0, 1) := by decide +kernel
theorem dX12_addProduct_98 : decode cX12_addProduct 98 = .ok (.getfield 262, 3) := by decide +kernel
theorem dX12_addProduct_101 : decode cX12_addProduct 101 = .ok (.iload_n 3, 1) := by decide +kernel
theorem dX12_addProduct_102 : decode cX12_addProduct 102 = .ok (.aload_n 0, 1) := by decide +kernel
theorem dX12_addProduct_103 : decode cX12_addProduct 103 = .ok (.getfield 262, 3) := by decide +kernel
theorem dX12_addProduct_106 : decode cX12_addProduct 106 = .ok (.iload_n 3, 1) := by decide +kernel
theorem dX12_addProduct_107 : decode cX12_addProduct 107 = .ok (.iconst 1, 1) := by decide +kernel
theorem dX12_addProduct_108 : decode cX12_addProduct 108 = .ok (.isub, 1) := by decide +kernel
theorem dX12_addProduct_109 : decode cX12_addProduct 109 = .ok (.iaload, 1) := by decide +kernel
theorem dX12_addProduct_110 : decode cX12_addProduct 110 = .ok (.iastore, 1) := by decide +kernel
theorem dX12_addProduct_111 : decode cX12_addProduct 111 = .ok (.iinc 3 (-1), 3) := by decide +kernel
theorem dX12_addProduct_114 : decode cX12_addProduct 114 = .ok (.goto (-33), 3) := by decide +kernel
theorem dX12_addProduct_117 : decode cX12_addProduct 117 = .ok (.aload_n 0, 1) := by decide +kernel
theorem dX12_addProduct_118 : decode cX12_addProduct 118 = .ok (.getfield 262, 3) := by decide +kernel
theorem dX12_addProduct_121 : decode cX12_addProduct 121 = .ok (.iload_n 3, 1) := by decide +kernel
theorem dX12_addProduct_122 : decode cX12_addProduct 122 = .ok (.iload_n 1, 1) := by decide +kernel
theorem dX12_addProduct_123 : decode cX12_addProduct 123 = .ok (.iastore, 1) := by decide +kernel
theorem dX12_addProduct_124 : decode cX12_addProduct 124 = .ok (.aload_n 0, 1) := by decide +kernel
theorem dX12_addProduct_125 : decode cX12_addProduct 125 = .ok (.iload_n 2, 1) := by decide +kernel
theorem dX12_addProduct_126 : decode cX12_addProduct 126 = .ok (.iconst 1, 1) := by decide +kernel
theorem dX12_addProduct_127 : decode cX12_addProduct 127 = .ok (.iadd, 1) := by decide +kernel
theorem dX12_addProduct_128 : decode cX12_addProduct 128 = .ok (.putfield 744, 3) := by decide +kernel
theorem dX12_addProduct_131 : decode cX12_addProduct 131 = .ok (.return_, 1) := by decide +kernel
theorem dX12_keepMade_0 : decode cX12_keepMade 0 = .ok (.iconst 1, 1) := by decide +kernel
theorem dX12_keepMade_1 : decode cX12_keepMade 1 = .ok (.istore_n 1, 1) := by decide +kernel
theorem dX12_keepMade_2 : decode cX12_keepMade 2 = .ok (.iload_n 1, 1) := by decide +kernel
theorem dX12_keepMade_3 : decode cX12_keepMade 3 = .ok (.aload_n 0, 1) := by decide +kernel
theorem dX12_keepMade_4 : decode cX12_keepMade 4 = .ok (.getfield 747, 3) := by decide +kernel
theorem dX12_keepMade_7 : decode cX12_keepMade 7 = .ok (.if_icmp .ge 80, 3) := by decide +kernel
theorem dX12_keepMade_10 : decode cX12_keepMade 10 = .ok (.aload_n 0, 1) := by decide +kernel
theorem dX12_keepMade_11 : decode cX12_keepMade 11 = .ok (.getfield 255, 3) := by decide +kernel
theorem dX12_keepMade_14 : decode cX12_keepMade 14 = .ok (.iload_n 1, 1) := by decide +kernel
theorem dX12_keepMade_15 : decode cX12_keepMade 15 = .ok (.iaload, 1) := by decide +kernel
theorem dX12_keepMade_16 : decode cX12_keepMade 16 = .ok (.aload_n 0, 1) := by decide +kernel
theorem dX12_keepMade_17 : decode cX12_keepMade 17 = .ok (.getfield 744, 3) := by decide +kernel
theorem dX12_keepMade_20 : decode cX12_keepMade 20 = .ok (.if_icmp .ne 7, 3) := by decide +kernel
theorem dX12_keepMade_23 : decode cX12_keepMade 23 = .ok (.iconst 1, 1) := by decide +kernel
theorem dX12_keepMade_24 : decode cX12_keepMade 24 = .ok (.goto 4, 3) := by decide +kernel
theorem dX12_keepMade_27 : decode cX12_keepMade 27 = .ok (.iconst 0, 1) := by decide +kernel
theorem dX12_keepMade_28 : decode cX12_keepMade 28 = .ok (.istore_n 2, 1) := by decide +kernel
theorem dX12_keepMade_29 : decode cX12_keepMade 29 = .ok (.iconst 0, 1) := by decide +kernel
theorem dX12_keepMade_30 : decode cX12_keepMade 30 = .ok (.istore_n 3, 1) := by decide +kernel
theorem dX12_keepMade_31 : decode cX12_keepMade 31 = .ok (.iload_n 3, 1) := by decide +kernel
theorem dX12_keepMade_32 : decode cX12_keepMade 32 = .ok (.aload_n 0, 1) := by decide +kernel
theorem dX12_keepMade_33 : decode cX12_keepMade 33 = .ok (.getfield 744, 3) := by decide +kernel
theorem dX12_keepMade_36 : decode cX12_keepMade 36 = .ok (.if_icmp .ge 39, 3) := by decide +kernel
theorem dX12_keepMade_39 : decode cX12_keepMade 39 = .ok (.iload_n 2, 1) := by decide +kernel
theorem dX12_keepMade_40 : decode cX12_keepMade 40 = .ok (.ifCond .eq 35, 3) := by decide +kernel
theorem dX12_keepMade_43 : decode cX12_keepMade 43 = .ok (.aload_n 0, 1) := by decide +kernel
theorem dX12_keepMade_44 : decode cX12_keepMade 44 = .ok (.getfield 259, 3) := by decide +kernel
theorem dX12_keepMade_47 : decode cX12_keepMade 47 = .ok (.bipush 16, 2) := by decide +kernel
theorem dX12_keepMade_49 : decode cX12_keepMade 49 = .ok (.iload_n 1, 1) := by decide +kernel
theorem dX12_keepMade_50 : decode cX12_keepMade 50 = .ok (.imul, 1) := by decide +kernel
theorem dX12_keepMade_51 : decode cX12_keepMade 51 = .ok (.iload_n 3, 1) := by decide +kernel
theorem dX12_keepMade_52 : decode cX12_keepMade 52 = .ok (.iadd, 1) := by decide +kernel
theorem dX12_keepMade_53 : decode cX12_keepMade 53 = .ok (.iaload, 1) := by decide +kernel
theorem dX12_keepMade_54 : decode cX12_keepMade 54 = .ok (.aload_n 0, 1) := by decide +kernel
theorem dX12_keepMade_55 : decode cX12_keepMade 55 = .ok (.getfield 262, 3) := by decide +kernel
theorem dX12_keepMade_58 : decode cX12_keepMade 58 = .ok (.iload_n 3, 1) := by decide +kernel
theorem dX12_keepMade_59 : decode cX12_keepMade 59 = .ok (.iaload, 1) := by decide +kernel
theorem dX12_keepMade_60 : decode cX12_keepMade 60 = .ok (.if_icmp .ne 7, 3) := by decide +kernel
theorem dX12_keepMade_63 : decode cX12_keepMade 63 = .ok (.iconst 1, 1) := by decide +kernel
theorem dX12_keepMade_64 : decode cX12_keepMade 64 = .ok (.goto 4, 3) := by decide +kernel
theorem dX12_keepMade_67 : decode cX12_keepMade 67 = .ok (.iconst 0, 1) := by decide +kernel
theorem dX12_keepMade_68 : decode cX12_keepMade 68 = .ok (.istore_n 2, 1) := by decide +kernel
theorem dX12_keepMade_69 : decode cX12_keepMade 69 = .ok (.iinc 3 1, 3) := by decide +kernel
theorem dX12_keepMade_72 : decode cX12_keepMade 72 = .ok (.goto (-41), 3) := by decide +kernel
theorem dX12_keepMade_75 : decode cX12_keepMade 75 = .ok (.iload_n 2, 1) := by decide +kernel
theorem dX12_keepMade_76 : decode cX12_keepMade 76 = .ok (.ifCond .eq 5, 3) := by decide +kernel
theorem dX12_keepMade_79 : decode cX12_keepMade 79 = .ok (.iload_n 1, 1) := by decide +kernel
theorem dX12_keepMade_80 : decode cX12_keepMade 80 = .ok (.ireturn, 1) := by decide +kernel
theorem dX12_keepMade_81 : decode cX12_keepMade 81 = .ok (.iinc 1 1, 3) := by decide +kernel
theorem dX12_keepMade_84 : decode cX12_keepMade 84 = .ok (.goto (-82), 3) := by decide +kernel
theorem dX12_keepMade_87 : decode cX12_keepMade 87 = .ok (.aload_n 0, 1) := by decide +kernel
theorem dX12_keepMade_88 : decode cX12_keepMade 88 = .ok (.getfield 255, 3) := by decide +kernel
theorem dX12_keepMade_91 : decode cX12_keepMade 91 = .ok (.aload_n 0, 1) := by decide +kernel
theorem dX12_keepMade_92 : decode cX12_keepMade 92 = .ok (.getfield 747, 3) := by decide +kernel
theorem dX12_keepMade_95 : decode cX12_keepMade 95 = .ok (.aload_n 0, 1) := by decide +kernel
theorem dX12_keepMade_96 : decode cX12_keepMade 96 = .ok (.getfield 744, 3) := by decide +kernel
theorem dX12_keepMade_99 : decode cX12_keepMade 99 = .ok (.iastore, 1) := by decide +kernel
theorem dX12_keepMade_100 : decode cX12_keepMade 100 = .ok (.iconst 0, 1) := by decide +kernel
theorem dX12_keepMade_101 : decode cX12_keepMade 101 = .ok (.istore_n 1, 1) := by decide +kernel
theorem dX12_keepMade_102 : decode cX12_keepMade 102 = .ok (.iload_n 1, 1) := by decide +kernel
theorem dX12_keepMade_103 : decode cX12_keepMade 103 = .ok (.aload_n 0, 1) := by decide +kernel
theorem dX12_keepMade_104 : decode cX12_keepMade 104 = .ok (.getfield 744, 3) := by decide +kernel
theorem dX12_keepMade_107 : decode cX12_keepMade 107 = .ok (.if_icmp .ge 29, 3) := by decide +kernel
theorem dX12_keepMade_110 : decode cX12_keepMade 110 = .ok (.aload_n 0, 1) := by decide +kernel
theorem dX12_keepMade_111 : decode cX12_keepMade 111 = .ok (.getfield 259, 3) := by decide +kernel
theorem dX12_keepMade_114 : decode cX12_keepMade 114 = .ok (.bipush 16, 2) := by decide +kernel
theorem dX12_keepMade_116 : decode cX12_keepMade 116 = .ok (.aload_n 0, 1) := by decide +kernel
theorem dX12_keepMade_117 : decode cX12_keepMade 117 = .ok (.getfield 747, 3) := by decide +kernel
theorem dX12_keepMade_120 : decode cX12_keepMade 120 = .ok (.imul, 1) := by decide +kernel
theorem dX12_keepMade_121 : decode cX12_keepMade 121 = .ok (.iload_n 1, 1) := by decide +kernel
theorem dX12_keepMade_122 : decode cX12_keepMade 122 = .ok (.iadd, 1) := by decide +kernel
theorem dX12_keepMade_123 : decode cX12_keepMade 123 = .ok (.aload_n 0, 1) := by decide +kernel
theorem dX12_keepMade_124 : decode cX12_keepMade 124 = .ok (.getfield 262, 3) := by decide +kernel
theorem dX12_keepMade_127 : decode cX12_keepMade 127 = .ok (.iload_n 1, 1) := by decide +kernel
theorem dX12_keepMade_128 : decode cX12_keepMade 128 = .ok (.iaload, 1) := by decide +kernel
theorem dX12_keepMade_129 : decode cX12_keepMade 129 = .ok (.iastore, 1) := by decide +kernel
theorem dX12_keepMade_130 : decode cX12_keepMade 130 = .ok (.iinc 1 1, 3) := by decide +kernel
theorem dX12_keepMade_133 : decode cX12_keepMade 133 = .ok (.goto (-31), 3) := by decide +kernel
theorem dX12_keepMade_136 : decode cX12_keepMade 136 = .ok (.aload_n 0, 1) := by decide +kernel
theorem dX12_keepMade_137 : decode cX12_keepMade 137 = .ok (.dup, 1) := by decide +kernel
theorem dX12_keepMade_138 : decode cX12_keepMade 138 = .ok (.getfield 747, 3) := by decide +kernel
theorem dX12_keepMade_141 : decode cX12_keepMade 141 = .ok (.iconst 1, 1) := by decide +kernel
theorem dX12_keepMade_142 : decode cX12_keepMade 142 = .ok (.iadd, 1) := by decide +kernel
theorem dX12_keepMade_143 : decode cX12_keepMade 143 = .ok (.putfield 747, 3) := by decide +kernel
theorem dX12_keepMade_146 : decode cX12_keepMade 146 = .ok (.aload_n 0, 1) := by decide +kernel
theorem dX12_keepMade_147 : decode cX12_keepMade 147 = .ok (.getfield 747, 3) := by decide +kernel
theorem dX12_keepMade_150 : decode cX12_keepMade 150 = .ok (.iconst 1, 1) := by decide +kernel
theorem dX12_keepMade_151 : decode cX12_keepMade 151 = .ok (.isub, 1) := by decide +kernel
theorem dX12_keepMade_152 : decode cX12_keepMade 152 = .ok (.ireturn, 1) := by decide +kernel
theorem dX12_contextOf_0 : decode cX12_contextOf 0 = .ok (.iconst 1, 1) := by decide +kernel
theorem dX12_contextOf_1 : decode cX12_contextOf 1 = .ok (.aload_n 0, 1) := by decide +kernel
theorem dX12_contextOf_2 : decode cX12_contextOf 2 = .ok (.getfield 57, 3) := by decide +kernel
theorem dX12_contextOf_5 : decode cX12_contextOf 5 = .ok (.aload_n 0, 1) := by decide +kernel
theorem dX12_contextOf_6 : decode cX12_contextOf 6 = .ok (.getfield 66, 3) := by decide +kernel
theorem dX12_contextOf_9 : decode cX12_contextOf 9 = .ok (.iload_n 1, 1) := by decide +kernel
theorem dX12_contextOf_10 : decode cX12_contextOf 10 = .ok (.iaload, 1) := by decide +kernel
theorem dX12_contextOf_11 : decode cX12_contextOf 11 = .ok (.iaload, 1) := by decide +kernel
theorem dX12_contextOf_12 : decode cX12_contextOf 12 = .ok (.ishl, 1) := by decide +kernel
theorem dX12_contextOf_13 : decode cX12_contextOf 13 = .ok (.istore_n 3, 1) := by decide +kernel
theorem dX12_contextOf_14 : decode cX12_contextOf 14 = .ok (.aload_n 0, 1) := by decide +kernel
theorem dX12_contextOf_15 : decode cX12_contextOf 15 = .ok (.iconst 0, 1) := by decide +kernel
theorem dX12_contextOf_16 : decode cX12_contextOf 16 = .ok (.putfield 744, 3) := by decide +kernel
theorem dX12_contextOf_19 : decode cX12_contextOf 19 = .ok (.aload_n 0, 1) := by decide +kernel
theorem dX12_contextOf_20 : decode cX12_contextOf 20 = .ok (.getfield 63, 3) := by decide +kernel
theorem dX12_contextOf_23 : decode cX12_contextOf 23 = .ok (.iload_n 1, 1) := by decide +kernel
theorem dX12_contextOf_24 : decode cX12_contextOf 24 = .ok (.iaload, 1) := by decide +kernel
theorem dX12_contextOf_25 : decode cX12_contextOf 25 = .ok (.iconst 2, 1) := by decide +kernel
theorem dX12_contextOf_26 : decode cX12_contextOf 26 = .ok (.if_icmp .ne 13, 3) := by decide +kernel
theorem dX12_contextOf_29 : decode cX12_contextOf 29 = .ok (.aload_n 0, 1) := by decide +kernel
theorem dX12_contextOf_30 : decode cX12_contextOf 30 = .ok (.iload_n 3, 1) := by decide +kernel
theorem dX12_contextOf_31 : decode cX12_contextOf 31 = .ok (.invokevirtual 750, 3) := by decide +kernel
theorem dX12_contextOf_34 : decode cX12_contextOf 34 = .ok (.aload_n 0, 1) := by decide +kernel
theorem dX12_contextOf_35 : decode cX12_contextOf 35 = .ok (.invokevirtual 753, 3) := by decide +kernel
theorem dX12_contextOf_38 : decode cX12_contextOf 38 = .ok (.ireturn, 1) := by decide +kernel
theorem dX12_contextOf_39 : decode cX12_contextOf 39 = .ok (.aload_n 0, 1) := by decide +kernel
theorem dX12_contextOf_40 : decode cX12_contextOf 40 = .ok (.getfield 63, 3) := by decide +kernel
theorem dX12_contextOf_43 : decode cX12_contextOf 43 = .ok (.iload_n 1, 1) := by decide +kernel
theorem dX12_contextOf_44 : decode cX12_contextOf 44 = .ok (.iaload, 1) := by decide +kernel
theorem dX12_contextOf_45 : decode cX12_contextOf 45 = .ok (.iconst 3, 1) := by decide +kernel
theorem dX12_contextOf_46 : decode cX12_contextOf 46 = .ok (.if_icmp .ne 17, 3) := by decide +kernel
theorem dX12_contextOf_49 : decode cX12_contextOf 49 = .ok (.iconst 1, 1) := by decide +kernel
theorem dX12_contextOf_50 : decode cX12_contextOf 50 = .ok (.bipush 8, 2) := by decide +kernel
theorem dX12_contextOf_52 : decode cX12_contextOf 52 = .ok (.aload_n 0, 1) := by decide +kernel
theorem dX12_contextOf_53 : decode cX12_contextOf 53 = .ok (.getfield 81, 3) := by decide +kernel
theorem dX12_contextOf_56 : decode cX12_contextOf 56 = .ok (.iload_n 1, 1) := by decide +kernel
theorem dX12_contextOf_57 : decode cX12_contextOf 57 = .ok (.iaload, 1) := by decide +kernel
theorem dX12_contextOf_58 : decode cX12_contextOf 58 = .ok (.iadd, 1) := by decide +kernel
theorem dX12_contextOf_59 : decode cX12_contextOf 59 = .ok (.ishl, 1) := by decide +kernel
theorem dX12_contextOf_60 : decode cX12_contextOf 60 = .ok (.goto 4, 3) := by decide +kernel
theorem dX12_contextOf_63 : decode cX12_contextOf 63 = .ok (.iconst 0, 1) := by decide +kernel
theorem dX12_contextOf_64 : decode cX12_contextOf 64 = .ok (.istore 4, 2) := by decide +kernel
theorem dX12_contextOf_66 : decode cX12_contextOf 66 = .ok (.iconst 0, 1) := by decide +kernel
theorem dX12_contextOf_67 : decode cX12_contextOf 67 = .ok (.istore 5, 2) := by decide +kernel
theorem dX12_contextOf_69 : decode cX12_contextOf 69 = .ok (.iload 5, 2) := by decide +kernel
theorem dX12_contextOf_71 : decode cX12_contextOf 71 = .ok (.aload_n 0, 1) := by decide +kernel
theorem dX12_contextOf_72 : decode cX12_contextOf 72 = .ok (.getfield 255, 3) := by decide +kernel
theorem dX12_contextOf_75 : decode cX12_contextOf 75 = .ok (.iload_n 2, 1) := by decide +kernel
theorem dX12_contextOf_76 : decode cX12_contextOf 76 = .ok (.iaload, 1) := by decide +kernel
theorem dX12_contextOf_77 : decode cX12_contextOf 77 = .ok (.if_icmp .ge 27, 3) := by decide +kernel
theorem dX12_contextOf_80 : decode cX12_contextOf 80 = .ok (.aload_n 0, 1) := by decide +kernel
theorem dX12_contextOf_81 : decode cX12_contextOf 81 = .ok (.aload_n 0, 1) := by decide +kernel
theorem dX12_contextOf_82 : decode cX12_contextOf 82 = .ok (.getfield 259, 3) := by decide +kernel
theorem dX12_contextOf_85 : decode cX12_contextOf 85 = .ok (.bipush 16, 2) := by decide +kernel
theorem dX12_contextOf_87 : decode cX12_contextOf 87 = .ok (.iload_n 2, 1) := by decide +kernel
theorem dX12_contextOf_88 : decode cX12_contextOf 88 = .ok (.imul, 1) := by decide +kernel
theorem dX12_contextOf_89 : decode cX12_contextOf 89 = .ok (.iload 5, 2) := by decide +kernel
theorem dX12_contextOf_91 : decode cX12_contextOf 91 = .ok (.iadd, 1) := by decide +kernel
theorem dX12_contextOf_92 : decode cX12_contextOf 92 = .ok (.iaload, 1) := by decide +kernel
theorem dX12_contextOf_93 : decode cX12_contextOf 93 = .ok (.iload_n 3, 1) := by decide +kernel
theorem dX12_contextOf_94 : decode cX12_contextOf 94 = .ok (.ior, 1) := by decide +kernel
theorem dX12_contextOf_95 : decode cX12_contextOf 95 = .ok (.invokevirtual 750, 3) := by decide +kernel
theorem dX12_contextOf_98 : decode cX12_contextOf 98 = .ok (.iinc 5 1, 3) := by decide +kernel
theorem dX12_contextOf_101 : decode cX12_contextOf 101 = .ok (.goto (-32), 3) := by decide +kernel
theorem dX12_contextOf_104 : decode cX12_contextOf 104 = .ok (.iload 4, 2) := by decide +kernel
theorem dX12_contextOf_106 : decode cX12_contextOf 106 = .ok (.ifCond .eq 81, 3) := by decide +kernel
theorem dX12_contextOf_109 : decode cX12_contextOf 109 = .ok (.iconst 0, 1) := by decide +kernel
theorem dX12_contextOf_110 : decode cX12_contextOf 110 = .ok (.istore 5, 2) := by decide +kernel
theorem dX12_contextOf_112 : decode cX12_contextOf 112 = .ok (.iconst 0, 1) := by decide +kernel
theorem dX12_contextOf_113 : decode cX12_contextOf 113 = .ok (.istore 6, 2) := by decide +kernel
theorem dX12_contextOf_115 : decode cX12_contextOf 115 = .ok (.iload 6, 2) := by decide +kernel
theorem dX12_contextOf_117 : decode cX12_contextOf 117 = .ok (.aload_n 0, 1) := by decide +kernel
theorem dX12_contextOf_118 : decode cX12_contextOf 118 = .ok (.getfield 255, 3) := by decide +kernel
theorem dX12_contextOf_121 : decode cX12_contextOf 121 = .ok (.iload_n 2, 1) := by decide +kernel
theorem dX12_contextOf_122 : decode cX12_contextOf 122 = .ok (.iaload, 1) := by decide +kernel
theorem dX12_contextOf_123 : decode cX12_contextOf 123 = .ok (.if_icmp .ge 51, 3) := by decide +kernel
theorem dX12_contextOf_126 : decode cX12_contextOf 126 = .ok (.iload 5, 2) := by decide +kernel
theorem dX12_contextOf_128 : decode cX12_contextOf 128 = .ok (.ifCond .ne 33, 3) := by decide +kernel
theorem dX12_contextOf_131 : decode cX12_contextOf 131 = .ok (.aload_n 0, 1) := by decide +kernel
theorem dX12_contextOf_132 : decode cX12_contextOf 132 = .ok (.getfield 259, 3) := by decide +kernel
theorem dX12_contextOf_135 : decode cX12_contextOf 135 = .ok (.bipush 16, 2) := by decide +kernel
theorem dX12_contextOf_137 : decode cX12_contextOf 137 = .ok (.iload_n 2, 1) := by decide +kernel
theorem dX12_contextOf_138 : decode cX12_contextOf 138 = .ok (.imul, 1) := by decide +kernel
theorem dX12_contextOf_139 : decode cX12_contextOf 139 = .ok (.iload 6, 2) := by decide +kernel
theorem dX12_contextOf_141 : decode cX12_contextOf 141 = .ok (.iadd, 1) := by decide +kernel
theorem dX12_contextOf_142 : decode cX12_contextOf 142 = .ok (.iaload, 1) := by decide +kernel
theorem dX12_contextOf_143 : decode cX12_contextOf 143 = .ok (.iload 4, 2) := by decide +kernel
theorem dX12_contextOf_145 : decode cX12_contextOf 145 = .ok (.iand, 1) := by decide +kernel
theorem dX12_contextOf_146 : decode cX12_contextOf 146 = .ok (.aload_n 0, 1) := by decide +kernel
theorem dX12_contextOf_147 : decode cX12_contextOf 147 = .ok (.getfield 259, 3) := by decide +kernel
theorem dX12_contextOf_150 : decode cX12_contextOf 150 = .ok (.bipush 16, 2) := by decide +kernel
theorem dX12_contextOf_152 : decode cX12_contextOf 152 = .ok (.iload_n 2, 1) := by decide +kernel
theorem dX12_contextOf_153 : decode cX12_contextOf 153 = .ok (.imul, 1) := by decide +kernel
theorem dX12_contextOf_154 : decode cX12_contextOf 154 = .ok (.iload 6, 2) := by decide +kernel
theorem dX12_contextOf_156 : decode cX12_contextOf 156 = .ok (.iadd, 1) := by decide +kernel
theorem dX12_contextOf_157 : decode cX12_contextOf 157 = .ok (.iaload, 1) := by decide +kernel
theorem dX12_contextOf_158 : decode cX12_contextOf 158 = .ok (.if_icmp .ne 7, 3) := by decide +kernel
theorem dX12_contextOf_161 : decode cX12_contextOf 161 = .ok (.iconst 1, 1) := by decide +kernel
theorem dX12_contextOf_162 : decode cX12_contextOf 162 = .ok (.goto 4, 3) := by decide +kernel
theorem dX12_contextOf_165 : decode cX12_contextOf 165 = .ok (.iconst 0, 1) := by decide +kernel
theorem dX12_contextOf_166 : decode cX12_contextOf 166 = .ok (.istore 5, 2) := by decide +kernel
theorem dX12_contextOf_168 : decode cX12_contextOf 168 = .ok (.iinc 6 1, 3) := by decide +kernel
theorem dX12_contextOf_171 : decode cX12_contextOf 171 = .ok (.goto (-56), 3) := by decide +kernel
theorem dX12_contextOf_174 : decode cX12_contextOf 174 = .ok (.iload 5, 2) := by decide +kernel
theorem dX12_contextOf_176 : decode cX12_contextOf 176 = .ok (.ifCond .ne 11, 3) := by decide +kernel
theorem dX12_contextOf_179 : decode cX12_contextOf 179 = .ok (.aload_n 0, 1) := by decide +kernel
theorem dX12_contextOf_180 : decode cX12_contextOf 180 = .ok (.iload 4, 2) := by decide +kernel
theorem dX12_contextOf_182 : decode cX12_contextOf 182 = .ok (.iload_n 3, 1) := by decide +kernel
theorem dX12_contextOf_183 : decode cX12_contextOf 183 = .ok (.ior, 1) := by decide +kernel
theorem dX12_contextOf_184 : decode cX12_contextOf 184 = .ok (.invokevirtual 750, 3) := by decide +kernel
theorem dX12_contextOf_187 : decode cX12_contextOf 187 = .ok (.aload_n 0, 1) := by decide +kernel
theorem dX12_contextOf_188 : decode cX12_contextOf 188 = .ok (.invokevirtual 753, 3) := by decide +kernel
theorem dX12_contextOf_191 : decode cX12_contextOf 191 = .ok (.ireturn, 1) := by decide +kernel
theorem dX12_bitsOf_0 : decode cX12_bitsOf 0 = .ok (.iconst 0, 1) := by decide +kernel
theorem dX12_bitsOf_1 : decode cX12_bitsOf 1 = .ok (.istore 4, 2) := by decide +kernel
theorem dX12_bitsOf_3 : decode cX12_bitsOf 3 = .ok (.iconst 0, 1) := by decide +kernel
theorem dX12_bitsOf_4 : decode cX12_bitsOf 4 = .ok (.istore 5, 2) := by decide +kernel
theorem dX12_bitsOf_6 : decode cX12_bitsOf 6 = .ok (.iload 5, 2) := by decide +kernel
theorem dX12_bitsOf_8 : decode cX12_bitsOf 8 = .ok (.aload_n 0, 1) := by decide +kernel
theorem dX12_bitsOf_9 : decode cX12_bitsOf 9 = .ok (.getfield 629, 3) := by decide +kernel
theorem dX12_bitsOf_12 : decode cX12_bitsOf 12 = .ok (.if_icmp .ge 33, 3) := by decide +kernel
theorem dX12_bitsOf_15 : decode cX12_bitsOf 15 = .ok (.iload 4, 2) := by decide +kernel
theorem dX12_bitsOf_17 : decode cX12_bitsOf 17 = .ok (.aload_n 0, 1) := by decide +kernel
theorem dX12_bitsOf_18 : decode cX12_bitsOf 18 = .ok (.iload 5, 2) := by decide +kernel
theorem dX12_bitsOf_20 : decode cX12_bitsOf 20 = .ok (.lload_n 1, 1) := by decide +kernel
theorem dX12_bitsOf_21 : decode cX12_bitsOf 21 = .ok (.iload_n 3, 1) := by decide +kernel
theorem dX12_bitsOf_22 : decode cX12_bitsOf 22 = .ok (.invokevirtual 721, 3) := by decide +kernel
theorem dX12_bitsOf_25 : decode cX12_bitsOf 25 = .ok (.ifCond .eq 10, 3) := by decide +kernel
theorem dX12_bitsOf_28 : decode cX12_bitsOf 28 = .ok (.iconst 1, 1) := by decide +kernel
theorem dX12_bitsOf_29 : decode cX12_bitsOf 29 = .ok (.iload 5, 2) := by decide +kernel
theorem dX12_bitsOf_31 : decode cX12_bitsOf 31 = .ok (.ishl, 1) := by decide +kernel
theorem dX12_bitsOf_32 : decode cX12_bitsOf 32 = .ok (.goto 4, 3) := by decide +kernel
theorem dX12_bitsOf_35 : decode cX12_bitsOf 35 = .ok (.iconst 0, 1) := by decide +kernel
theorem dX12_bitsOf_36 : decode cX12_bitsOf 36 = .ok (.ior, 1) := by decide +kernel
theorem dX12_bitsOf_37 : decode cX12_bitsOf 37 = .ok (.istore 4, 2) := by decide +kernel
theorem dX12_bitsOf_39 : decode cX12_bitsOf 39 = .ok (.iinc 5 1, 3) := by decide +kernel
theorem dX12_bitsOf_42 : decode cX12_bitsOf 42 = .ok (.goto (-36), 3) := by decide +kernel
theorem dX12_bitsOf_45 : decode cX12_bitsOf 45 = .ok (.iconst 0, 1) := by decide +kernel
theorem dX12_bitsOf_46 : decode cX12_bitsOf 46 = .ok (.istore 5, 2) := by decide +kernel
theorem dX12_bitsOf_48 : decode cX12_bitsOf 48 = .ok (.iload 5, 2) := by decide +kernel
theorem dX12_bitsOf_50 : decode cX12_bitsOf 50 = .ok (.aload_n 0, 1) := by decide +kernel
theorem dX12_bitsOf_51 : decode cX12_bitsOf 51 = .ok (.getfield 431, 3) := by decide +kernel
theorem dX12_bitsOf_54 : decode cX12_bitsOf 54 = .ok (.if_icmp .ge 36, 3) := by decide +kernel
theorem dX12_bitsOf_57 : decode cX12_bitsOf 57 = .ok (.iload 4, 2) := by decide +kernel
theorem dX12_bitsOf_59 : decode cX12_bitsOf 59 = .ok (.aload_n 0, 1) := by decide +kernel
theorem dX12_bitsOf_60 : decode cX12_bitsOf 60 = .ok (.iload 5, 2) := by decide +kernel
theorem dX12_bitsOf_62 : decode cX12_bitsOf 62 = .ok (.lload_n 1, 1) := by decide +kernel
theorem dX12_bitsOf_63 : decode cX12_bitsOf 63 = .ok (.iload_n 3, 1) := by decide +kernel
theorem dX12_bitsOf_64 : decode cX12_bitsOf 64 = .ok (.invokevirtual 718, 3) := by decide +kernel
theorem dX12_bitsOf_67 : decode cX12_bitsOf 67 = .ok (.ifCond .eq 13, 3) := by decide +kernel
theorem dX12_bitsOf_70 : decode cX12_bitsOf 70 = .ok (.iconst 1, 1) := by decide +kernel
theorem dX12_bitsOf_71 : decode cX12_bitsOf 71 = .ok (.bipush 8, 2) := by decide +kernel
theorem dX12_bitsOf_73 : decode cX12_bitsOf 73 = .ok (.iload 5, 2) := by decide +kernel
theorem dX12_bitsOf_75 : decode cX12_bitsOf 75 = .ok (.iadd, 1) := by decide +kernel
theorem dX12_bitsOf_76 : decode cX12_bitsOf 76 = .ok (.ishl, 1) := by decide +kernel
theorem dX12_bitsOf_77 : decode cX12_bitsOf 77 = .ok (.goto 4, 3) := by decide +kernel
theorem dX12_bitsOf_80 : decode cX12_bitsOf 80 = .ok (.iconst 0, 1) := by decide +kernel
theorem dX12_bitsOf_81 : decode cX12_bitsOf 81 = .ok (.ior, 1) := by decide +kernel
theorem dX12_bitsOf_82 : decode cX12_bitsOf 82 = .ok (.istore 4, 2) := by decide +kernel
theorem dX12_bitsOf_84 : decode cX12_bitsOf 84 = .ok (.iinc 5 1, 3) := by decide +kernel
theorem dX12_bitsOf_87 : decode cX12_bitsOf 87 = .ok (.goto (-39), 3) := by decide +kernel
theorem dX12_bitsOf_90 : decode cX12_bitsOf 90 = .ok (.iload 4, 2) := by decide +kernel
theorem dX12_bitsOf_92 : decode cX12_bitsOf 92 = .ok (.ireturn, 1) := by decide +kernel
theorem dX12_isGrantedBy_0 : decode cX12_isGrantedBy 0 = .ok (.iconst 0, 1) := by decide +kernel
theorem dX12_isGrantedBy_1 : decode cX12_isGrantedBy 1 = .ok (.istore_n 3, 1) := by decide +kernel
theorem dX12_isGrantedBy_2 : decode cX12_isGrantedBy 2 = .ok (.iload_n 3, 1) := by decide +kernel
theorem dX12_isGrantedBy_3 : decode cX12_isGrantedBy 3 = .ok (.aload_n 0, 1) := by decide +kernel
theorem dX12_isGrantedBy_4 : decode cX12_isGrantedBy 4 = .ok (.getfield 255, 3) := by decide +kernel
theorem dX12_isGrantedBy_7 : decode cX12_isGrantedBy 7 = .ok (.iload_n 1, 1) := by decide +kernel
theorem dX12_isGrantedBy_8 : decode cX12_isGrantedBy 8 = .ok (.iaload, 1) := by decide +kernel
theorem dX12_isGrantedBy_9 : decode cX12_isGrantedBy 9 = .ok (.if_icmp .ge 29, 3) := by decide +kernel
theorem dX12_isGrantedBy_12 : decode cX12_isGrantedBy 12 = .ok (.aload_n 0, 1) := by decide +kernel
theorem dX12_isGrantedBy_13 : decode cX12_isGrantedBy 13 = .ok (.getfield 259, 3) := by decide +kernel
theorem dX12_isGrantedBy_16 : decode cX12_isGrantedBy 16 = .ok (.bipush 16, 2) := by decide +kernel
theorem dX12_isGrantedBy_18 : decode cX12_isGrantedBy 18 = .ok (.iload_n 1, 1) := by decide +kernel
theorem dX12_isGrantedBy_19 : decode cX12_isGrantedBy 19 = .ok (.imul, 1) := by decide +kernel
theorem dX12_isGrantedBy_20 : decode cX12_isGrantedBy 20 = .ok (.iload_n 3, 1) := by decide +kernel
theorem dX12_isGrantedBy_21 : decode cX12_isGrantedBy 21 = .ok (.iadd, 1) := by decide +kernel
theorem dX12_isGrantedBy_22 : decode cX12_isGrantedBy 22 = .ok (.iaload, 1) := by decide +kernel
theorem dX12_isGrantedBy_23 : decode cX12_isGrantedBy 23 = .ok (.iload_n 2, 1) := by decide +kernel
theorem dX12_isGrantedBy_24 : decode cX12_isGrantedBy 24 = .ok (.iconst (-1), 1) := by decide +kernel
theorem dX12_isGrantedBy_25 : decode cX12_isGrantedBy 25 = .ok (.ixor, 1) := by decide +kernel
theorem dX12_isGrantedBy_26 : decode cX12_isGrantedBy 26 = .ok (.iand, 1) := by decide +kernel
theorem dX12_isGrantedBy_27 : decode cX12_isGrantedBy 27 = .ok (.ifCond .ne 5, 3) := by decide +kernel
theorem dX12_isGrantedBy_30 : decode cX12_isGrantedBy 30 = .ok (.iconst 1, 1) := by decide +kernel
theorem dX12_isGrantedBy_31 : decode cX12_isGrantedBy 31 = .ok (.ireturn, 1) := by decide +kernel
theorem dX12_isGrantedBy_32 : decode cX12_isGrantedBy 32 = .ok (.iinc 3 1, 3) := by decide +kernel
theorem dX12_isGrantedBy_35 : decode cX12_isGrantedBy 35 = .ok (.goto (-33), 3) := by decide +kernel
theorem dX12_isGrantedBy_38 : decode cX12_isGrantedBy 38 = .ok (.iconst 0, 1) := by decide +kernel
theorem dX12_isGrantedBy_39 : decode cX12_isGrantedBy 39 = .ok (.ireturn, 1) := by decide +kernel
theorem dX12_isGrantedIn_0 : decode cX12_isGrantedIn 0 = .ok (.iload_n 1, 1) := by decide +kernel
theorem dX12_isGrantedIn_1 : decode cX12_isGrantedIn 1 = .ok (.istore_n 3, 1) := by decide +kernel
theorem dX12_isGrantedIn_2 : decode cX12_isGrantedIn 2 = .ok (.iload_n 3, 1) := by decide +kernel
theorem dX12_isGrantedIn_3 : decode cX12_isGrantedIn 3 = .ok (.iconst (-1), 1) := by decide +kernel
theorem dX12_isGrantedIn_4 : decode cX12_isGrantedIn 4 = .ok (.if_icmp .eq 114, 3) := by decide +kernel
theorem dX12_isGrantedIn_7 : decode cX12_isGrantedIn 7 = .ok (.aload_n 0, 1) := by decide +kernel
theorem dX12_isGrantedIn_8 : decode cX12_isGrantedIn 8 = .ok (.dup, 1) := by decide +kernel
theorem dX12_isGrantedIn_9 : decode cX12_isGrantedIn 9 = .ok (.getfield 756, 3) := by decide +kernel
theorem dX12_isGrantedIn_12 : decode cX12_isGrantedIn 12 = .ok (.iconst 1, 1) := by decide +kernel
theorem dX12_isGrantedIn_13 : decode cX12_isGrantedIn 13 = .ok (.iadd, 1) := by decide +kernel
theorem dX12_isGrantedIn_14 : decode cX12_isGrantedIn 14 = .ok (.putfield 756, 3) := by decide +kernel
