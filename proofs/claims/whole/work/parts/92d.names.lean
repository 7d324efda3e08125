theorem dX12_fun_88 : decode cX12_fun 88 = .ok (.getfield 421, 3) := by decide +kernel
theorem dX12_fun_91 : decode cX12_fun 91 = .ok (.istore 4, 2) := by decide +kernel
theorem dX12_fun_93 : decode cX12_fun 93 = .ok (.aload_n 0, 1) := by decide +kernel
theorem dX12_fun_94 : decode cX12_fun 94 = .ok (.iload_n 1, 1) := by decide +kernel
theorem dX12_fun_95 : decode cX12_fun 95 = .ok (.putfield 421, 3) := by decide +kernel
theorem dX12_fun_98 : decode cX12_fun 98 = .ok (.aload_n 0, 1) := by decide +kernel
theorem dX12_fun_99 : decode cX12_fun 99 = .ok (.invokevirtual 620, 3) := by decide +kernel
theorem dX12_fun_102 : decode cX12_fun 102 = .ok (.istore 5, 2) := by decide +kernel
theorem dX12_fun_104 : decode cX12_fun 104 = .ok (.aload_n 0, 1) := by decide +kernel
theorem dX12_fun_105 : decode cX12_fun 105 = .ok (.getfield 78, 3) := by decide +kernel
theorem dX12_fun_108 : decode cX12_fun 108 = .ok (.iload_n 1, 1) := by decide +kernel
theorem dX12_fun_109 : decode cX12_fun 109 = .ok (.iload 5, 2) := by decide +kernel
theorem dX12_fun_111 : decode cX12_fun 111 = .ok (.iastore, 1) := by decide +kernel
theorem dX12_fun_112 : decode cX12_fun 112 = .ok (.aload_n 0, 1) := by decide +kernel
theorem dX12_fun_113 : decode cX12_fun 113 = .ok (.iload 4, 2) := by decide +kernel
theorem dX12_fun_115 : decode cX12_fun 115 = .ok (.putfield 421, 3) := by decide +kernel
theorem dX12_fun_118 : decode cX12_fun 118 = .ok (.aload_n 0, 1) := by decide +kernel
theorem dX12_fun_119 : decode cX12_fun 119 = .ok (.iload_n 3, 1) := by decide +kernel
theorem dX12_fun_120 : decode cX12_fun 120 = .ok (.putfield 446, 3) := by decide +kernel
theorem dX12_fun_123 : decode cX12_fun 123 = .ok (.iload_n 2, 1) := by decide +kernel
theorem dX12_fun_124 : decode cX12_fun 124 = .ok (.ireturn, 1) := by decide +kernel
theorem dX12_row_0 : decode cX12_row 0 = .ok (.aload_n 0, 1) := by decide +kernel
theorem dX12_row_1 : decode cX12_row 1 = .ok (.bipush 123, 2) := by decide +kernel
theorem dX12_row_3 : decode cX12_row 3 = .ok (.invokevirtual 479, 3) := by decide +kernel
theorem dX12_row_6 : decode cX12_row 6 = .ok (.aload_n 0, 1) := by decide +kernel
theorem dX12_row_7 : decode cX12_row 7 = .ok (.invokevirtual 515, 3) := by decide +kernel
theorem dX12_row_10 : decode cX12_row 10 = .ok (.istore_n 1, 1) := by decide +kernel
theorem dX12_row_11 : decode cX12_row 11 = .ok (.aload_n 0, 1) := by decide +kernel
theorem dX12_row_12 : decode cX12_row 12 = .ok (.bipush 59, 2) := by decide +kernel
theorem dX12_row_14 : decode cX12_row 14 = .ok (.invokevirtual 385, 3) := by decide +kernel
theorem dX12_row_17 : decode cX12_row 17 = .ok (.ifCond .ne 11, 3) := by decide +kernel
theorem dX12_row_20 : decode cX12_row 20 = .ok (.aload_n 0, 1) := by decide +kernel
theorem dX12_row_21 : decode cX12_row 21 = .ok (.bipush 125, 2) := by decide +kernel
theorem dX12_row_23 : decode cX12_row 23 = .ok (.invokevirtual 479, 3) := by decide +kernel
theorem dX12_row_26 : decode cX12_row 26 = .ok (.iload_n 1, 1) := by decide +kernel
theorem dX12_row_27 : decode cX12_row 27 = .ok (.ireturn, 1) := by decide +kernel
theorem dX12_row_28 : decode cX12_row 28 = .ok (.aload_n 0, 1) := by decide +kernel
theorem dX12_row_29 : decode cX12_row 29 = .ok (.bipush 42, 2) := by decide +kernel
theorem dX12_row_31 : decode cX12_row 31 = .ok (.iconst 0, 1) := by decide +kernel
theorem dX12_row_32 : decode cX12_row 32 = .ok (.iconst 0, 1) := by decide +kernel
theorem dX12_row_33 : decode cX12_row 33 = .ok (.invokevirtual 555, 3) := by decide +kernel
theorem dX12_row_36 : decode cX12_row 36 = .ok (.istore_n 2, 1) := by decide +kernel
theorem dX12_row_37 : decode cX12_row 37 = .ok (.aload_n 0, 1) := by decide +kernel
theorem dX12_row_38 : decode cX12_row 38 = .ok (.iload_n 2, 1) := by decide +kernel
theorem dX12_row_39 : decode cX12_row 39 = .ok (.iload_n 1, 1) := by decide +kernel
theorem dX12_row_40 : decode cX12_row 40 = .ok (.invokevirtual 549, 3) := by decide +kernel
theorem dX12_row_43 : decode cX12_row 43 = .ok (.aload_n 0, 1) := by decide +kernel
theorem dX12_row_44 : decode cX12_row 44 = .ok (.bipush 59, 2) := by decide +kernel
theorem dX12_row_46 : decode cX12_row 46 = .ok (.invokevirtual 385, 3) := by decide +kernel
theorem dX12_row_49 : decode cX12_row 49 = .ok (.ifCond .eq 26, 3) := by decide +kernel
theorem dX12_row_52 : decode cX12_row 52 = .ok (.aload_n 0, 1) := by decide +kernel
theorem dX12_row_53 : decode cX12_row 53 = .ok (.invokevirtual 552, 3) := by decide +kernel
theorem dX12_row_56 : decode cX12_row 56 = .ok (.ifCond .eq 19, 3) := by decide +kernel
theorem dX12_row_59 : decode cX12_row 59 = .ok (.aload_n 0, 1) := by decide +kernel
theorem dX12_row_60 : decode cX12_row 60 = .ok (.invokevirtual 388, 3) := by decide +kernel
theorem dX12_row_63 : decode cX12_row 63 = .ok (.aload_n 0, 1) := by decide +kernel
theorem dX12_row_64 : decode cX12_row 64 = .ok (.iload_n 2, 1) := by decide +kernel
theorem dX12_row_65 : decode cX12_row 65 = .ok (.aload_n 0, 1) := by decide +kernel
theorem dX12_row_66 : decode cX12_row 66 = .ok (.invokevirtual 515, 3) := by decide +kernel
theorem dX12_row_69 : decode cX12_row 69 = .ok (.invokevirtual 549, 3) := by decide +kernel
theorem dX12_row_72 : decode cX12_row 72 = .ok (.goto (-29), 3) := by decide +kernel
theorem dX12_row_75 : decode cX12_row 75 = .ok (.aload_n 0, 1) := by decide +kernel
theorem dX12_row_76 : decode cX12_row 76 = .ok (.bipush 125, 2) := by decide +kernel
theorem dX12_row_78 : decode cX12_row 78 = .ok (.invokevirtual 479, 3) := by decide +kernel
theorem dX12_row_81 : decode cX12_row 81 = .ok (.iload_n 2, 1) := by decide +kernel
theorem dX12_row_82 : decode cX12_row 82 = .ok (.ireturn, 1) := by decide +kernel
theorem dX12_asking_0 : decode cX12_asking 0 = .ok (.aload_n 0, 1) := by decide +kernel
theorem dX12_asking_1 : decode cX12_asking 1 = .ok (.invokevirtual 552, 3) := by decide +kernel
theorem dX12_asking_4 : decode cX12_asking 4 = .ok (.ifCond .ne 5, 3) := by decide +kernel
theorem dX12_asking_7 : decode cX12_asking 7 = .ok (.iconst 0, 1) := by decide +kernel
theorem dX12_asking_8 : decode cX12_asking 8 = .ok (.ireturn, 1) := by decide +kernel
theorem dX12_asking_9 : decode cX12_asking 9 = .ok (.aload_n 0, 1) := by decide +kernel
theorem dX12_asking_10 : decode cX12_asking 10 = .ok (.getfield 440, 3) := by decide +kernel
theorem dX12_asking_13 : decode cX12_asking 13 = .ok (.bipush 24, 2) := by decide +kernel
theorem dX12_asking_15 : decode cX12_asking 15 = .ok (.if_icmp .ne 10, 3) := by decide +kernel
theorem dX12_asking_18 : decode cX12_asking 18 = .ok (.aload_n 0, 1) := by decide +kernel
theorem dX12_asking_19 : decode cX12_asking 19 = .ok (.iconst 4, 1) := by decide +kernel
theorem dX12_asking_20 : decode cX12_asking 20 = .ok (.invokevirtual 362, 3) := by decide +kernel
theorem dX12_asking_23 : decode cX12_asking 23 = .ok (.iconst 0, 1) := by decide +kernel
theorem dX12_asking_24 : decode cX12_asking 24 = .ok (.ireturn, 1) := by decide +kernel
theorem dX12_asking_25 : decode cX12_asking 25 = .ok (.aload_n 0, 1) := by decide +kernel
theorem dX12_asking_26 : decode cX12_asking 26 = .ok (.getfield 440, 3) := by decide +kernel
theorem dX12_asking_29 : decode cX12_asking 29 = .ok (.istore_n 1, 1) := by decide +kernel
theorem dX12_asking_30 : decode cX12_asking 30 = .ok (.aload_n 0, 1) := by decide +kernel
theorem dX12_asking_31 : decode cX12_asking 31 = .ok (.dup, 1) := by decide +kernel
theorem dX12_asking_32 : decode cX12_asking 32 = .ok (.getfield 440, 3) := by decide +kernel
theorem dX12_asking_35 : decode cX12_asking 35 = .ok (.iconst 1, 1) := by decide +kernel
theorem dX12_asking_36 : decode cX12_asking 36 = .ok (.iadd, 1) := by decide +kernel
theorem dX12_asking_37 : decode cX12_asking 37 = .ok (.putfield 440, 3) := by decide +kernel
theorem dX12_asking_40 : decode cX12_asking 40 = .ok (.aload_n 0, 1) := by decide +kernel
theorem dX12_asking_41 : decode cX12_asking 41 = .ok (.aload_n 0, 1) := by decide +kernel
theorem dX12_asking_42 : decode cX12_asking 42 = .ok (.getfield 369, 3) := by decide +kernel
theorem dX12_asking_45 : decode cX12_asking 45 = .ok (.bipush 17, 2) := by decide +kernel
theorem dX12_asking_47 : decode cX12_asking 47 = .ok (.if_icmp .ne 8, 3) := by decide +kernel
theorem dX12_asking_50 : decode cX12_asking 50 = .ok (.bipush 25, 2) := by decide +kernel
theorem dX12_asking_52 : decode cX12_asking 52 = .ok (.goto 5, 3) := by decide +kernel
theorem dX12_asking_55 : decode cX12_asking 55 = .ok (.bipush 26, 2) := by decide +kernel
theorem dX12_asking_57 : decode cX12_asking 57 = .ok (.iload_n 1, 1) := by decide +kernel
theorem dX12_asking_58 : decode cX12_asking 58 = .ok (.iconst 0, 1) := by decide +kernel
theorem dX12_asking_59 : decode cX12_asking 59 = .ok (.invokevirtual 555, 3) := by decide +kernel
theorem dX12_asking_62 : decode cX12_asking 62 = .ok (.istore_n 2, 1) := by decide +kernel
theorem dX12_asking_63 : decode cX12_asking 63 = .ok (.aload_n 0, 1) := by decide +kernel
theorem dX12_asking_64 : decode cX12_asking 64 = .ok (.invokevirtual 388, 3) := by decide +kernel
theorem dX12_asking_67 : decode cX12_asking 67 = .ok (.aload_n 0, 1) := by decide +kernel
theorem dX12_asking_68 : decode cX12_asking 68 = .ok (.invokevirtual 400, 3) := by decide +kernel
theorem dX12_asking_71 : decode cX12_asking 71 = .ok (.ifCond .ne 5, 3) := by decide +kernel
theorem dX12_asking_74 : decode cX12_asking 74 = .ok (.iload_n 2, 1) := by decide +kernel
theorem dX12_asking_75 : decode cX12_asking 75 = .ok (.ireturn, 1) := by decide +kernel
theorem dX12_asking_76 : decode cX12_asking 76 = .ok (.aload_n 0, 1) := by decide +kernel
theorem dX12_asking_77 : decode cX12_asking 77 = .ok (.getfield 100, 3) := by decide +kernel
theorem dX12_asking_80 : decode cX12_asking 80 = .ok (.iload_n 1, 1) := by decide +kernel
theorem dX12_asking_81 : decode cX12_asking 81 = .ok (.aload_n 0, 1) := by decide +kernel
theorem dX12_asking_82 : decode cX12_asking 82 = .ok (.getfield 358, 3) := by decide +kernel
theorem dX12_asking_85 : decode cX12_asking 85 = .ok (.lastore, 1) := by decide +kernel
theorem dX12_asking_86 : decode cX12_asking 86 = .ok (.aload_n 0, 1) := by decide +kernel
theorem dX12_asking_87 : decode cX12_asking 87 = .ok (.getfield 265, 3) := by decide +kernel
theorem dX12_asking_90 : decode cX12_asking 90 = .ok (.iload_n 1, 1) := by decide +kernel
theorem dX12_asking_91 : decode cX12_asking 91 = .ok (.iconst 0, 1) := by decide +kernel
theorem dX12_asking_92 : decode cX12_asking 92 = .ok (.bastore, 1) := by decide +kernel
theorem dX12_asking_93 : decode cX12_asking 93 = .ok (.aload_n 0, 1) := by decide +kernel
theorem dX12_asking_94 : decode cX12_asking 94 = .ok (.invokevirtual 388, 3) := by decide +kernel
theorem dX12_asking_97 : decode cX12_asking 97 = .ok (.aload_n 0, 1) := by decide +kernel
theorem dX12_asking_98 : decode cX12_asking 98 = .ok (.sipush 240, 3) := by decide +kernel
theorem dX12_asking_101 : decode cX12_asking 101 = .ok (.iload_n 1, 1) := by decide +kernel
theorem dX12_asking_102 : decode cX12_asking 102 = .ok (.iadd, 1) := by decide +kernel
theorem dX12_asking_103 : decode cX12_asking 103 = .ok (.iconst 1, 1) := by decide +kernel
theorem dX12_asking_104 : decode cX12_asking 104 = .ok (.invokevirtual 403, 3) := by decide +kernel
theorem dX12_asking_107 : decode cX12_asking 107 = .ok (.aload_n 0, 1) := by decide +kernel
theorem dX12_asking_108 : decode cX12_asking 108 = .ok (.bipush 91, 2) := by decide +kernel
theorem dX12_asking_110 : decode cX12_asking 110 = .ok (.invokevirtual 385, 3) := by decide +kernel
theorem dX12_asking_113 : decode cX12_asking 113 = .ok (.ifCond .eq 29, 3) := by decide +kernel
theorem dX12_asking_116 : decode cX12_asking 116 = .ok (.aload_n 0, 1) := by decide +kernel
theorem dX12_asking_117 : decode cX12_asking 117 = .ok (.getfield 265, 3) := by decide +kernel
theorem dX12_asking_120 : decode cX12_asking 120 = .ok (.iload_n 1, 1) := by decide +kernel
theorem dX12_asking_121 : decode cX12_asking 121 = .ok (.iconst 1, 1) := by decide +kernel
theorem dX12_asking_122 : decode cX12_asking 122 = .ok (.bastore, 1) := by decide +kernel
theorem dX12_asking_123 : decode cX12_asking 123 = .ok (.aload_n 0, 1) := by decide +kernel
theorem dX12_asking_124 : decode cX12_asking 124 = .ok (.invokevirtual 388, 3) := by decide +kernel
theorem dX12_asking_127 : decode cX12_asking 127 = .ok (.aload_n 0, 1) := by decide +kernel
theorem dX12_asking_128 : decode cX12_asking 128 = .ok (.iload_n 2, 1) := by decide +kernel
theorem dX12_asking_129 : decode cX12_asking 129 = .ok (.aload_n 0, 1) := by decide +kernel
theorem dX12_asking_130 : decode cX12_asking 130 = .ok (.invokevirtual 515, 3) := by decide +kernel
theorem dX12_asking_133 : decode cX12_asking 133 = .ok (.invokevirtual 549, 3) := by decide +kernel
theorem dX12_asking_136 : decode cX12_asking 136 = .ok (.aload_n 0, 1) := by decide +kernel
theorem dX12_asking_137 : decode cX12_asking 137 = .ok (.bipush 93, 2) := by decide +kernel
theorem dX12_asking_139 : decode cX12_asking 139 = .ok (.invokevirtual 479, 3) := by decide +kernel
theorem dX12_asking_142 : decode cX12_asking 142 = .ok (.iload_n 2, 1) := by decide +kernel
theorem dX12_asking_143 : decode cX12_asking 143 = .ok (.ireturn, 1) := by decide +kernel
theorem dX12_findDomains_0 : decode cX12_findDomains 0 = .ok (.aload_n 0, 1) := by decide +kernel
theorem dX12_findDomains_1 : decode cX12_findDomains 1 = .ok (.iconst 0, 1) := by decide +kernel
theorem dX12_findDomains_2 : decode cX12_findDomains 2 = .ok (.putfield 629, 3) := by decide +kernel
theorem dX12_findDomains_5 : decode cX12_findDomains 5 = .ok (.iconst 0, 1) := by decide +kernel
theorem dX12_findDomains_6 : decode cX12_findDomains 6 = .ok (.istore_n 1, 1) := by decide +kernel
theorem dX12_findDomains_7 : decode cX12_findDomains 7 = .ok (.iload_n 1, 1) := by decide +kernel
theorem dX12_findDomains_8 : decode cX12_findDomains 8 = .ok (.aload_n 0, 1) := by decide +kernel
theorem dX12_findDomains_9 : decode cX12_findDomains 9 = .ok (.getfield 434, 3) := by decide +kernel
theorem dX12_findDomains_12 : decode cX12_findDomains 12 = .ok (.if_icmp .ge 140, 3) := by decide +kernel
theorem dX12_findDomains_15 : decode cX12_findDomains 15 = .ok (.iconst 0, 1) := by decide +kernel
theorem dX12_findDomains_16 : decode cX12_findDomains 16 = .ok (.istore_n 2, 1) := by decide +kernel
theorem dX12_findDomains_17 : decode cX12_findDomains 17 = .ok (.iconst 0, 1) := by decide +kernel
theorem dX12_findDomains_18 : decode cX12_findDomains 18 = .ok (.istore_n 3, 1) := by decide +kernel
theorem dX12_findDomains_19 : decode cX12_findDomains 19 = .ok (.iload_n 3, 1) := by decide +kernel
theorem dX12_findDomains_20 : decode cX12_findDomains 20 = .ok (.aload_n 0, 1) := by decide +kernel
theorem dX12_findDomains_21 : decode cX12_findDomains 21 = .ok (.getfield 411, 3) := by decide +kernel
theorem dX12_findDomains_24 : decode cX12_findDomains 24 = .ok (.if_icmp .ge 33, 3) := by decide +kernel
theorem dX12_findDomains_27 : decode cX12_findDomains 27 = .ok (.iload_n 2, 1) := by decide +kernel
theorem dX12_findDomains_28 : decode cX12_findDomains 28 = .ok (.aload_n 0, 1) := by decide +kernel
theorem dX12_findDomains_29 : decode cX12_findDomains 29 = .ok (.bipush 8, 2) := by decide +kernel
theorem dX12_findDomains_31 : decode cX12_findDomains 31 = .ok (.iload_n 3, 1) := by decide +kernel
theorem dX12_findDomains_32 : decode cX12_findDomains 32 = .ok (.iadd, 1) := by decide +kernel
theorem dX12_findDomains_33 : decode cX12_findDomains 33 = .ok (.iconst 0, 1) := by decide +kernel
theorem dX12_findDomains_34 : decode cX12_findDomains 34 = .ok (.iload_n 1, 1) := by decide +kernel
theorem dX12_findDomains_35 : decode cX12_findDomains 35 = .ok (.iadd, 1) := by decide +kernel
theorem dX12_findDomains_36 : decode cX12_findDomains 36 = .ok (.invokevirtual 407, 3) := by decide +kernel
theorem dX12_findDomains_39 : decode cX12_findDomains 39 = .ok (.ifCond .eq 9, 3) := by decide +kernel
theorem dX12_findDomains_42 : decode cX12_findDomains 42 = .ok (.iconst 1, 1) := by decide +kernel
theorem dX12_findDomains_43 : decode cX12_findDomains 43 = .ok (.iload_n 3, 1) := by decide +kernel
theorem dX12_findDomains_44 : decode cX12_findDomains 44 = .ok (.ishl, 1) := by decide +kernel
theorem dX12_findDomains_45 : decode cX12_findDomains 45 = .ok (.goto 4, 3) := by decide +kernel
theorem dX12_findDomains_48 : decode cX12_findDomains 48 = .ok (.iconst 0, 1) := by decide +kernel
theorem dX12_findDomains_49 : decode cX12_findDomains 49 = .ok (.ior, 1) := by decide +kernel
theorem dX12_findDomains_50 : decode cX12_findDomains 50 = .ok (.istore_n 2, 1) := by decide +kernel
theorem dX12_findDomains_51 : decode cX12_findDomains 51 = .ok (.iinc 3 1, 3) := by decide +kernel
theorem dX12_findDomains_54 : decode cX12_findDomains 54 = .ok (.goto (-35), 3) := by decide +kernel
theorem dX12_findDomains_57 : decode cX12_findDomains 57 = .ok (.aload_n 0, 1) := by decide +kernel
theorem dX12_findDomains_58 : decode cX12_findDomains 58 = .ok (.getfield 57, 3) := by decide +kernel
theorem dX12_findDomains_61 : decode cX12_findDomains 61 = .ok (.iload_n 1, 1) := by decide +kernel
theorem dX12_findDomains_62 : decode cX12_findDomains 62 = .ok (.iconst (-1), 1) := by decide +kernel
theorem dX12_findDomains_63 : decode cX12_findDomains 63 = .ok (.iastore, 1) := by decide +kernel
theorem dX12_findDomains_64 : decode cX12_findDomains 64 = .ok (.iconst 0, 1) := by decide +kernel
theorem dX12_findDomains_65 : decode cX12_findDomains 65 = .ok (.istore_n 3, 1) := by decide +kernel
theorem dX12_findDomains_66 : decode cX12_findDomains 66 = .ok (.iload_n 3, 1) := by decide +kernel
theorem dX12_findDomains_67 : decode cX12_findDomains 67 = .ok (.aload_n 0, 1) := by decide +kernel
theorem dX12_findDomains_68 : decode cX12_findDomains 68 = .ok (.getfield 629, 3) := by decide +kernel
theorem dX12_findDomains_71 : decode cX12_findDomains 71 = .ok (.if_icmp .ge 35, 3) := by decide +kernel
theorem dX12_findDomains_74 : decode cX12_findDomains 74 = .ok (.aload_n 0, 1) := by decide +kernel
theorem dX12_findDomains_75 : decode cX12_findDomains 75 = .ok (.getfield 57, 3) := by decide +kernel
theorem dX12_findDomains_78 : decode cX12_findDomains 78 = .ok (.iload_n 1, 1) := by decide +kernel
theorem dX12_findDomains_79 : decode cX12_findDomains 79 = .ok (.aload_n 0, 1) := by decide +kernel
theorem dX12_findDomains_80 : decode cX12_findDomains 80 = .ok (.getfield 60, 3) := by decide +kernel
theorem dX12_findDomains_83 : decode cX12_findDomains 83 = .ok (.iload_n 3, 1) := by decide +kernel
theorem dX12_findDomains_84 : decode cX12_findDomains 84 = .ok (.iaload, 1) := by decide +kernel
theorem dX12_findDomains_85 : decode cX12_findDomains 85 = .ok (.iload_n 2, 1) := by decide +kernel
theorem dX12_findDomains_86 : decode cX12_findDomains 86 = .ok (.if_icmp .ne 7, 3) := by decide +kernel
theorem dX12_findDomains_89 : decode cX12_findDomains 89 = .ok (.iload_n 3, 1) := by decide +kernel
theorem dX12_findDomains_90 : decode cX12_findDomains 90 = .ok (.goto 9, 3) := by decide +kernel
theorem dX12_findDomains_93 : decode cX12_findDomains 93 = .ok (.aload_n 0, 1) := by decide +kernel
theorem dX12_findDomains_94 : decode cX12_findDomains 94 = .ok (.getfield 57, 3) := by decide +kernel
theorem dX12_findDomains_97 : decode cX12_findDomains 97 = .ok (.iload_n 1, 1) := by decide +kernel
theorem dX12_findDomains_98 : decode cX12_findDomains 98 = .ok (.iaload, 1) := by decide +kernel
theorem dX12_findDomains_99 : decode cX12_findDomains 99 = .ok (.iastore, 1) := by decide +kernel
theorem dX12_findDomains_100 : decode cX12_findDomains 100 = .ok (.iinc 3 1, 3) := by decide +kernel
theorem dX12_findDomains_103 : decode cX12_findDomains 103 = .ok (.goto (-37), 3) := by decide +kernel
theorem dX12_findDomains_106 : decode cX12_findDomains 106 = .ok (.aload_n 0, 1) := by decide +kernel
theorem dX12_findDomains_107 : decode cX12_findDomains 107 = .ok (.getfield 57, 3) := by decide +kernel
theorem dX12_findDomains_110 : decode cX12_findDomains 110 = .ok (.iload_n 1, 1) := by decide +kernel
theorem dX12_findDomains_111 : decode cX12_findDomains 111 = .ok (.iaload, 1) := by decide +kernel
theorem dX12_findDomains_112 : decode cX12_findDomains 112 = .ok (.iconst (-1), 1) := by decide +kernel
theorem dX12_findDomains_113 : decode cX12_findDomains 113 = .ok (.if_icmp .ne 33, 3) := by decide +kernel
theorem dX12_findDomains_116 : decode cX12_findDomains 116 = .ok (.aload_n 0, 1) := by decide +kernel
theorem dX12_findDomains_117 : decode cX12_findDomains 117 = .ok (.getfield 57, 3) := by decide +kernel
theorem dX12_findDomains_120 : decode cX12_findDomains 120 = .ok (.iload_n 1, 1) := by decide +kernel
theorem dX12_findDomains_121 : decode cX12_findDomains 121 = .ok (.aload_n 0, 1) := by decide +kernel
theorem dX12_findDomains_122 : decode cX12_findDomains 122 = .ok (.getfield 629, 3) := by decide +kernel
theorem dX12_findDomains_125 : decode cX12_findDomains 125 = .ok (.iastore, 1) := by decide +kernel
theorem dX12_findDomains_126 : decode cX12_findDomains 126 = .ok (.aload_n 0, 1) := by decide +kernel
theorem dX12_findDomains_127 : decode cX12_findDomains 127 = .ok (.getfield 60, 3) := by decide +kernel
theorem dX12_findDomains_130 : decode cX12_findDomains 130 = .ok (.aload_n 0, 1) := by decide +kernel
theorem dX12_findDomains_131 : decode cX12_findDomains 131 = .ok (.getfield 629, 3) := by decide +kernel
theorem dX12_findDomains_134 : decode cX12_findDomains 134 = .ok (.iload_n 2, 1) := by decide +kernel
theorem dX12_findDomains_135 : decode cX12_findDomains 135 = .ok (.iastore, 1) := by decide +kernel
theorem dX12_findDomains_136 : decode cX12_findDomains 136 = .ok (.aload_n 0, 1) := by decide +kernel
theorem dX12_findDomains_137 : decode cX12_findDomains 137 = .ok (.dup, 1) := by decide +kernel
theorem dX12_findDomains_138 : decode cX12_findDomains 138 = .ok (.getfield 629, 3) := by decide +kernel
theorem dX12_findDomains_141 : decode cX12_findDomains 141 = .ok (.iconst 1, 1) := by decide +kernel
theorem dX12_findDomains_142 : decode cX12_findDomains 142 = .ok (.iadd, 1) := by decide +kernel
theorem dX12_findDomains_143 : decode cX12_findDomains 143 = .ok (.putfield 629, 3) := by decide +kernel
theorem dX12_findDomains_146 : decode cX12_findDomains 146 = .ok (.iinc 1 1, 3) := by decide +kernel
theorem dX12_findDomains_149 : decode cX12_findDomains 149 = .ok (.goto (-142), 3) := by decide +kernel
theorem dX12_findDomains_152 : decode cX12_findDomains 152 = .ok (.return_, 1) := by decide +kernel
theorem dX12_isOfGroup_0 : decode cX12_isOfGroup 0 = .ok (.aload_n 0, 1) := by decide +kernel
theorem dX12_isOfGroup_1 : decode cX12_isOfGroup 1 = .ok (.getfield 127, 3) := by decide +kernel
theorem dX12_isOfGroup_4 : decode cX12_isOfGroup 4 = .ok (.iload_n 1, 1) := by decide +kernel
theorem dX12_isOfGroup_5 : decode cX12_isOfGroup 5 = .ok (.iaload, 1) := by decide +kernel
theorem dX12_isOfGroup_6 : decode cX12_isOfGroup 6 = .ok (.lookupswitch 141 #[(7, 34), (8, 85), (23, 116)], 34) := by decide +kernel
theorem dX12_isOfGroup_40 : decode cX12_isOfGroup 40 = .ok (.aload_n 0, 1) := by decide +kernel
theorem dX12_isOfGroup_41 : decode cX12_isOfGroup 41 = .ok (.getfield 63, 3) := by decide +kernel
theorem dX12_isOfGroup_44 : decode cX12_isOfGroup 44 = .ok (.iload_n 2, 1) := by decide +kernel
theorem dX12_isOfGroup_45 : decode cX12_isOfGroup 45 = .ok (.iaload, 1) := by decide +kernel
theorem dX12_isOfGroup_46 : decode cX12_isOfGroup 46 = .ok (.ifCond .ne 43, 3) := by decide +kernel
theorem dX12_isOfGroup_49 : decode cX12_isOfGroup 49 = .ok (.aload_n 0, 1) := by decide +kernel
theorem dX12_isOfGroup_50 : decode cX12_isOfGroup 50 = .ok (.getfield 84, 3) := by decide +kernel
theorem dX12_isOfGroup_53 : decode cX12_isOfGroup 53 = .ok (.iload_n 2, 1) := by decide +kernel
theorem dX12_isOfGroup_54 : decode cX12_isOfGroup 54 = .ok (.laload, 1) := by decide +kernel
theorem dX12_isOfGroup_55 : decode cX12_isOfGroup 55 = .ok (.aload_n 0, 1) := by decide +kernel
theorem dX12_isOfGroup_56 : decode cX12_isOfGroup 56 = .ok (.getfield 124, 3) := by decide +kernel
theorem dX12_isOfGroup_59 : decode cX12_isOfGroup 59 = .ok (.aload_n 0, 1) := by decide +kernel
theorem dX12_isOfGroup_60 : decode cX12_isOfGroup 60 = .ok (.getfield 133, 3) := by decide +kernel
theorem dX12_isOfGroup_63 : decode cX12_isOfGroup 63 = .ok (.iload_n 1, 1) := by decide +kernel
theorem dX12_isOfGroup_64 : decode cX12_isOfGroup 64 = .ok (.iaload, 1) := by decide +kernel
theorem dX12_isOfGroup_65 : decode cX12_isOfGroup 65 = .ok (.laload, 1) := by decide +kernel
theorem dX12_isOfGroup_66 : decode cX12_isOfGroup 66 = .ok (.lcmp, 1) := by decide +kernel
theorem dX12_isOfGroup_67 : decode cX12_isOfGroup 67 = .ok (.ifCond .ne 22, 3) := by decide +kernel
theorem dX12_isOfGroup_70 : decode cX12_isOfGroup 70 = .ok (.aload_n 0, 1) := by decide +kernel
theorem dX12_isOfGroup_71 : decode cX12_isOfGroup 71 = .ok (.getfield 72, 3) := by decide +kernel
theorem dX12_isOfGroup_74 : decode cX12_isOfGroup 74 = .ok (.iload_n 2, 1) := by decide +kernel
theorem dX12_isOfGroup_75 : decode cX12_isOfGroup 75 = .ok (.iaload, 1) := by decide +kernel
theorem dX12_isOfGroup_76 : decode cX12_isOfGroup 76 = .ok (.aload_n 0, 1) := by decide +kernel
theorem dX12_isOfGroup_77 : decode cX12_isOfGroup 77 = .ok (.getfield 136, 3) := by decide +kernel
theorem dX12_isOfGroup_80 : decode cX12_isOfGroup 80 = .ok (.iload_n 1, 1) := by decide +kernel
theorem dX12_isOfGroup_81 : decode cX12_isOfGroup 81 = .ok (.iaload, 1) := by decide +kernel
theorem dX12_isOfGroup_82 : decode cX12_isOfGroup 82 = .ok (.if_icmp .ne 7, 3) := by decide +kernel
theorem dX12_isOfGroup_85 : decode cX12_isOfGroup 85 = .ok (.iconst 1, 1) := by decide +kernel
theorem dX12_isOfGroup_86 : decode cX12_isOfGroup 86 = .ok (.goto 4, 3) := by decide +kernel
theorem dX12_isOfGroup_89 : decode cX12_isOfGroup 89 = .ok (.iconst 0, 1) := by decide +kernel
theorem dX12_isOfGroup_90 : decode cX12_isOfGroup 90 = .ok (.ireturn, 1) := by decide +kernel
theorem dX12_isOfGroup_91 : decode cX12_isOfGroup 91 = .ok (.aload_n 0, 1) := by decide +kernel
theorem dX12_isOfGroup_92 : decode cX12_isOfGroup 92 = .ok (.getfield 63, 3) := by decide +kernel
theorem dX12_isOfGroup_95 : decode cX12_isOfGroup 95 = .ok (.iload_n 2, 1) := by decide +kernel
theorem dX12_isOfGroup_96 : decode cX12_isOfGroup 96 = .ok (.iaload, 1) := by decide +kernel
theorem dX12_isOfGroup_97 : decode cX12_isOfGroup 97 = .ok (.iconst 1, 1) := by decide +kernel
theorem dX12_isOfGroup_98 : decode cX12_isOfGroup 98 = .ok (.if_icmp .ne 22, 3) := by decide +kernel
theorem dX12_isOfGroup_101 : decode cX12_isOfGroup 101 = .ok (.aload_n 0, 1) := by decide +kernel
theorem dX12_isOfGroup_102 : decode cX12_isOfGroup 102 = .ok (.getfield 72, 3) := by decide +kernel
theorem dX12_isOfGroup_105 : decode cX12_isOfGroup 105 = .ok (.iload_n 2, 1) := by decide +kernel
theorem dX12_isOfGroup_106 : decode cX12_isOfGroup 106 = .ok (.iaload, 1) := by decide +kernel
theorem dX12_isOfGroup_107 : decode cX12_isOfGroup 107 = .ok (.aload_n 0, 1) := by decide +kernel
theorem dX12_isOfGroup_108 : decode cX12_isOfGroup 108 = .ok (.getfield 133, 3) := by decide +kernel
theorem dX12_isOfGroup_111 : decode cX12_isOfGroup 111 = .ok (.iload_n 1, 1) := by decide +kernel
theorem dX12_isOfGroup_112 : decode cX12_isOfGroup 112 = .ok (.iaload, 1) := by decide +kernel
theorem dX12_isOfGroup_113 : decode cX12_isOfGroup 113 = .ok (.if_icmp .ne 7, 3) := by decide +kernel
theorem dX12_isOfGroup_116 : decode cX12_isOfGroup 116 = .ok (.iconst 1, 1) := by decide +kernel
theorem dX12_isOfGroup_117 : decode cX12_isOfGroup 117 = .ok (.goto 4, 3) := by decide +kernel
theorem dX12_isOfGroup_120 : decode cX12_isOfGroup 120 = .ok (.iconst 0, 1) := by decide +kernel
theorem dX12_isOfGroup_121 : decode cX12_isOfGroup 121 = .ok (.ireturn, 1) := by decide +kernel
theorem dX12_isOfGroup_122 : decode cX12_isOfGroup 122 = .ok (.aload_n 0, 1) := by decide +kernel
theorem dX12_isOfGroup_123 : decode cX12_isOfGroup 123 = .ok (.getfield 63, 3) := by decide +kernel
theorem dX12_isOfGroup_126 : decode cX12_isOfGroup 126 = .ok (.iload_n 2, 1) := by decide +kernel
theorem dX12_isOfGroup_127 : decode cX12_isOfGroup 127 = .ok (.iaload, 1) := by decide +kernel
theorem dX12_isOfGroup_128 : decode cX12_isOfGroup 128 = .ok (.iconst 1, 1) := by decide +kernel
theorem dX12_isOfGroup_129 : decode cX12_isOfGroup 129 = .ok (.if_icmp .ne 16, 3) := by decide +kernel
theorem dX12_isOfGroup_132 : decode cX12_isOfGroup 132 = .ok (.aload_n 0, 1) := by decide +kernel
theorem dX12_isOfGroup_133 : decode cX12_isOfGroup 133 = .ok (.getfield 72, 3) := by decide +kernel
theorem dX12_isOfGroup_136 : decode cX12_isOfGroup 136 = .ok (.iload_n 2, 1) := by decide +kernel
theorem dX12_isOfGroup_137 : decode cX12_isOfGroup 137 = .ok (.iaload, 1) := by decide +kernel
theorem dX12_isOfGroup_138 : decode cX12_isOfGroup 138 = .ok (.ifCond .ne 7, 3) := by decide +kernel
theorem dX12_isOfGroup_141 : decode cX12_isOfGroup 141 = .ok (.iconst 1, 1) := by decide +kernel
theorem dX12_isOfGroup_142 : decode cX12_isOfGroup 142 = .ok (.goto 4, 3) := by decide +kernel
theorem dX12_isOfGroup_145 : decode cX12_isOfGroup 145 = .ok (.iconst 0, 1) := by decide +kernel
theorem dX12_isOfGroup_146 : decode cX12_isOfGroup 146 = .ok (.ireturn, 1) := by decide +kernel
theorem dX12_isOfGroup_147 : decode cX12_isOfGroup 147 = .ok (.iconst 0, 1) := by decide +kernel
theorem dX12_isOfGroup_148 : decode cX12_isOfGroup 148 = .ok (.ireturn, 1) := by decide +kernel
theorem dX12_groupNeeds_0 : decode cX12_groupNeeds 0 = .ok (.iconst 0, 1) := by decide +kernel
theorem dX12_groupNeeds_1 : decode cX12_groupNeeds 1 = .ok (.istore_n 2, 1) := by decide +kernel
theorem dX12_groupNeeds_2 : decode cX12_groupNeeds 2 = .ok (.iload_n 2, 1) := by decide +kernel
theorem dX12_groupNeeds_3 : decode cX12_groupNeeds 3 = .ok (.aload_n 0, 1) := by decide +kernel
theorem dX12_groupNeeds_4 : decode cX12_groupNeeds 4 = .ok (.getfield 437, 3) := by decide +kernel
theorem dX12_groupNeeds_7 : decode cX12_groupNeeds 7 = .ok (.if_icmp .ge 29, 3) := by decide +kernel
theorem dX12_groupNeeds_10 : decode cX12_groupNeeds 10 = .ok (.aload_n 0, 1) := by decide +kernel
theorem dX12_groupNeeds_11 : decode cX12_groupNeeds 11 = .ok (.getfield 96, 3) := by decide +kernel
theorem dX12_groupNeeds_14 : decode cX12_groupNeeds 14 = .ok (.iload_n 2, 1) := by decide +kernel
theorem dX12_groupNeeds_15 : decode cX12_groupNeeds 15 = .ok (.baload, 1) := by decide +kernel
theorem dX12_groupNeeds_16 : decode cX12_groupNeeds 16 = .ok (.ifCond .eq 14, 3) := by decide +kernel
theorem dX12_groupNeeds_19 : decode cX12_groupNeeds 19 = .ok (.aload_n 0, 1) := by decide +kernel
theorem dX12_groupNeeds_20 : decode cX12_groupNeeds 20 = .ok (.iload_n 1, 1) := by decide +kernel
theorem dX12_groupNeeds_21 : decode cX12_groupNeeds 21 = .ok (.iload_n 2, 1) := by decide +kernel
theorem dX12_groupNeeds_22 : decode cX12_groupNeeds 22 = .ok (.invokevirtual 632, 3) := by decide +kernel
theorem dX12_groupNeeds_25 : decode cX12_groupNeeds 25 = .ok (.ifCond .eq 5, 3) := by decide +kernel
theorem dX12_groupNeeds_28 : decode cX12_groupNeeds 28 = .ok (.iconst 1, 1) := by decide +kernel
theorem dX12_groupNeeds_29 : decode cX12_groupNeeds 29 = .ok (.ireturn, 1) := by decide +kernel
theorem dX12_groupNeeds_30 : decode cX12_groupNeeds 30 = .ok (.iinc 2 1, 3) := by decide +kernel
theorem dX12_groupNeeds_33 : decode cX12_groupNeeds 33 = .ok (.goto (-31), 3) := by decide +kernel
theorem dX12_groupNeeds_36 : decode cX12_groupNeeds 36 = .ok (.iconst 0, 1) := by decide +kernel
theorem dX12_groupNeeds_37 : decode cX12_groupNeeds 37 = .ok (.ireturn, 1) := by decide +kernel
theorem dX12_nodeNeeds_0 : decode cX12_nodeNeeds 0 = .ok (.aload_n 0, 1) := by decide +kernel
theorem dX12_nodeNeeds_1 : decode cX12_nodeNeeds 1 = .ok (.getfield 127, 3) := by decide +kernel
theorem dX12_nodeNeeds_4 : decode cX12_nodeNeeds 4 = .ok (.iload_n 1, 1) := by decide +kernel
theorem dX12_nodeNeeds_5 : decode cX12_nodeNeeds 5 = .ok (.iaload, 1) := by decide +kernel
theorem dX12_nodeNeeds_6 : decode cX12_nodeNeeds 6 = .ok (.istore_n 2, 1) := by decide +kernel
theorem dX12_nodeNeeds_7 : decode cX12_nodeNeeds 7 = .ok (.iload_n 2, 1) := by decide +kernel
theorem dX12_nodeNeeds_8 : decode cX12_nodeNeeds 8 = .ok (.bipush 25, 2) := by decide +kernel
theorem dX12_nodeNeeds_10 : decode cX12_nodeNeeds 10 = .ok (.if_icmp .eq 15, 3) := by decide +kernel
theorem dX12_nodeNeeds_13 : decode cX12_nodeNeeds 13 = .ok (.iload_n 2, 1) := by decide +kernel
theorem dX12_nodeNeeds_14 : decode cX12_nodeNeeds 14 = .ok (.bipush 26, 2) := by decide +kernel
theorem dX12_nodeNeeds_16 : decode cX12_nodeNeeds 16 = .ok (.if_icmp .eq 9, 3) := by decide +kernel
theorem dX12_nodeNeeds_19 : decode cX12_nodeNeeds 19 = .ok (.iload_n 2, 1) := by decide +kernel
theorem dX12_nodeNeeds_20 : decode cX12_nodeNeeds 20 = .ok (.bipush 27, 2) := by decide +kernel
theorem dX12_nodeNeeds_22 : decode cX12_nodeNeeds 22 = .ok (.if_icmp .ne 5, 3) := by decide +kernel
theorem dX12_nodeNeeds_25 : decode cX12_nodeNeeds 25 = .ok (.iconst 1, 1) := by decide +kernel
theorem dX12_nodeNeeds_26 : decode cX12_nodeNeeds 26 = .ok (.ireturn, 1) := by decide +kernel
theorem dX12_nodeNeeds_27 : decode cX12_nodeNeeds 27 = .ok (.iload_n 2, 1) := by decide +kernel
theorem dX12_nodeNeeds_28 : decode cX12_nodeNeeds 28 = .ok (.bipush 10, 2) := by decide +kernel
theorem dX12_nodeNeeds_30 : decode cX12_nodeNeeds 30 = .ok (.if_icmp .ne 40, 3) := by decide +kernel
theorem dX12_nodeNeeds_33 : decode cX12_nodeNeeds 33 = .ok (.aload_n 0, 1) := by decide +kernel
theorem dX12_nodeNeeds_34 : decode cX12_nodeNeeds 34 = .ok (.getfield 63, 3) := by decide +kernel
theorem dX12_nodeNeeds_37 : decode cX12_nodeNeeds 37 = .ok (.aload_n 0, 1) := by decide +kernel
theorem dX12_nodeNeeds_38 : decode cX12_nodeNeeds 38 = .ok (.getfield 133, 3) := by decide +kernel
theorem dX12_nodeNeeds_41 : decode cX12_nodeNeeds 41 = .ok (.iload_n 1, 1) := by decide +kernel
theorem dX12_nodeNeeds_42 : decode cX12_nodeNeeds 42 = .ok (.iaload, 1) := by decide +kernel
theorem dX12_nodeNeeds_43 : decode cX12_nodeNeeds 43 = .ok (.iaload, 1) := by decide +kernel
theorem dX12_nodeNeeds_44 : decode cX12_nodeNeeds 44 = .ok (.iconst 3, 1) := by decide +kernel
theorem dX12_nodeNeeds_45 : decode cX12_nodeNeeds 45 = .ok (.if_icmp .ne 21, 3) := by decide +kernel
theorem dX12_nodeNeeds_48 : decode cX12_nodeNeeds 48 = .ok (.aload_n 0, 1) := by decide +kernel
theorem dX12_nodeNeeds_49 : decode cX12_nodeNeeds 49 = .ok (.getfield 96, 3) := by decide +kernel
theorem dX12_nodeNeeds_52 : decode cX12_nodeNeeds 52 = .ok (.aload_n 0, 1) := by decide +kernel
theorem dX12_nodeNeeds_53 : decode cX12_nodeNeeds 53 = .ok (.getfield 133, 3) := by decide +kernel
theorem dX12_nodeNeeds_56 : decode cX12_nodeNeeds 56 = .ok (.iload_n 1, 1) := by decide +kernel
theorem dX12_nodeNeeds_57 : decode cX12_nodeNeeds 57 = .ok (.iaload, 1) := by decide +kernel
theorem dX12_nodeNeeds_58 : decode cX12_nodeNeeds 58 = .ok (.baload, 1) := by decide +kernel
theorem dX12_nodeNeeds_59 : decode cX12_nodeNeeds 59 = .ok (.ifCond .eq 7, 3) := by decide +kernel
theorem dX12_nodeNeeds_62 : decode cX12_nodeNeeds 62 = .ok (.iconst 1, 1) := by decide +kernel
theorem dX12_nodeNeeds_63 : decode cX12_nodeNeeds 63 = .ok (.goto 12, 3) := by decide +kernel
theorem dX12_nodeNeeds_66 : decode cX12_nodeNeeds 66 = .ok (.iconst 0, 1) := by decide +kernel
theorem dX12_nodeNeeds_67 : decode cX12_nodeNeeds 67 = .ok (.goto 8, 3) := by decide +kernel
theorem dX12_nodeNeeds_70 : decode cX12_nodeNeeds 70 = .ok (.aload_n 0, 1) := by decide +kernel
theorem dX12_nodeNeeds_71 : decode cX12_nodeNeeds 71 = .ok (.iload_n 1, 1) := by decide +kernel
theorem dX12_nodeNeeds_72 : decode cX12_nodeNeeds 72 = .ok (.invokevirtual 635, 3) := by decide +kernel
theorem dX12_nodeNeeds_75 : decode cX12_nodeNeeds 75 = .ok (.ireturn, 1) := by decide +kernel
theorem dX12_areOfOne_0 : decode cX12_areOfOne 0 = .ok (.aload_n 0, 1) := by decide +kernel
theorem dX12_areOfOne_1 : decode cX12_areOfOne 1 = .ok (.getfield 63, 3) := by decide +kernel
theorem dX12_areOfOne_4 : decode cX12_areOfOne 4 = .ok (.iload_n 1, 1) := by decide +kernel
theorem dX12_areOfOne_5 : decode cX12_areOfOne 5 = .ok (.iaload, 1) := by decide +kernel
theorem dX12_areOfOne_6 : decode cX12_areOfOne 6 = .ok (.aload_n 0, 1) := by decide +kernel
theorem dX12_areOfOne_7 : decode cX12_areOfOne 7 = .ok (.getfield 63, 3) := by decide +kernel
theorem dX12_areOfOne_10 : decode cX12_areOfOne 10 = .ok (.iload_n 2, 1) := by decide +kernel
theorem dX12_areOfOne_11 : decode cX12_areOfOne 11 = .ok (.iaload, 1) := by decide +kernel
theorem dX12_areOfOne_12 : decode cX12_areOfOne 12 = .ok (.if_icmp .ne 57, 3) := by decide +kernel
theorem dX12_areOfOne_15 : decode cX12_areOfOne 15 = .ok (.aload_n 0, 1) := by decide +kernel
theorem dX12_areOfOne_16 : decode cX12_areOfOne 16 = .ok (.getfield 72, 3) := by decide +kernel
theorem dX12_areOfOne_19 : decode cX12_areOfOne 19 = .ok (.iload_n 1, 1) := by decide +kernel
theorem dX12_areOfOne_20 : decode cX12_areOfOne 20 = .ok (.iaload, 1) := by decide +kernel
theorem dX12_areOfOne_21 : decode cX12_areOfOne 21 = .ok (.aload_n 0, 1) := by decide +kernel
theorem dX12_areOfOne_22 : decode cX12_areOfOne 22 = .ok (.getfield 72, 3) := by decide +kernel
theorem dX12_areOfOne_25 : decode cX12_areOfOne 25 = .ok (.iload_n 2, 1) := by decide +kernel
theorem dX12_areOfOne_26 : decode cX12_areOfOne 26 = .ok (.iaload, 1) := by decide +kernel
theorem dX12_areOfOne_27 : decode cX12_areOfOne 27 = .ok (.if_icmp .ne 42, 3) := by decide +kernel
theorem dX12_areOfOne_30 : decode cX12_areOfOne 30 = .ok (.aload_n 0, 1) := by decide +kernel
theorem dX12_areOfOne_31 : decode cX12_areOfOne 31 = .ok (.getfield 63, 3) := by decide +kernel
theorem dX12_areOfOne_34 : decode cX12_areOfOne 34 = .ok (.iload_n 1, 1) := by decide +kernel
theorem dX12_areOfOne_35 : decode cX12_areOfOne 35 = .ok (.iaload, 1) := by decide +kernel
theorem dX12_areOfOne_36 : decode cX12_areOfOne 36 = .ok (.iconst 1, 1) := by decide +kernel
theorem dX12_areOfOne_37 : decode cX12_areOfOne 37 = .ok (.if_icmp .eq 28, 3) := by decide +kernel
theorem dX12_areOfOne_40 : decode cX12_areOfOne 40 = .ok (.aload_n 0, 1) := by decide +kernel
theorem dX12_areOfOne_41 : decode cX12_areOfOne 41 = .ok (.getfield 63, 3) := by decide +kernel
theorem dX12_areOfOne_44 : decode cX12_areOfOne 44 = .ok (.iload_n 1, 1) := by decide +kernel
theorem dX12_areOfOne_45 : decode cX12_areOfOne 45 = .ok (.iaload, 1) := by decide +kernel
theorem dX12_areOfOne_46 : decode cX12_areOfOne 46 = .ok (.ifCond .ne 23, 3) := by decide +kernel
theorem dX12_areOfOne_49 : decode cX12_areOfOne 49 = .ok (.aload_n 0, 1) := by decide +kernel
theorem dX12_areOfOne_50 : decode cX12_areOfOne 50 = .ok (.getfield 84, 3) := by decide +kernel
theorem dX12_areOfOne_53 : decode cX12_areOfOne 53 = .ok (.iload_n 1, 1) := by decide +kernel
theorem dX12_areOfOne_54 : decode cX12_areOfOne 54 = .ok (.laload, 1) := by decide +kernel
theorem dX12_areOfOne_55 : decode cX12_areOfOne 55 = .ok (.aload_n 0, 1) := by decide +kernel
theorem dX12_areOfOne_56 : decode cX12_areOfOne 56 = .ok (.getfield 84, 3) := by decide +kernel
theorem dX12_areOfOne_59 : decode cX12_areOfOne 59 = .ok (.iload_n 2, 1) := by decide +kernel
theorem dX12_areOfOne_60 : decode cX12_areOfOne 60 = .ok (.laload, 1) := by decide +kernel
theorem dX12_areOfOne_61 : decode cX12_areOfOne 61 = .ok (.lcmp, 1) := by decide +kernel
theorem dX12_areOfOne_62 : decode cX12_areOfOne 62 = .ok (.ifCond .ne 7, 3) := by decide +kernel
theorem dX12_areOfOne_65 : decode cX12_areOfOne 65 = .ok (.iconst 1, 1) := by decide +kernel
theorem dX12_areOfOne_66 : decode cX12_areOfOne 66 = .ok (.goto 4, 3) := by decide +kernel
theorem dX12_areOfOne_69 : decode cX12_areOfOne 69 = .ok (.iconst 0, 1) := by decide +kernel
theorem dX12_areOfOne_70 : decode cX12_areOfOne 70 = .ok (.ireturn, 1) := by decide +kernel
theorem dX12_findNeeds_0 : decode cX12_findNeeds 0 = .ok (.iconst 0, 1) := by decide +kernel
theorem dX12_findNeeds_1 : decode cX12_findNeeds 1 = .ok (.istore_n 1, 1) := by decide +kernel
theorem dX12_findNeeds_2 : decode cX12_findNeeds 2 = .ok (.iload_n 1, 1) := by decide +kernel
theorem dX12_findNeeds_3 : decode cX12_findNeeds 3 = .ok (.aload_n 0, 1) := by decide +kernel
theorem dX12_findNeeds_4 : decode cX12_findNeeds 4 = .ok (.getfield 437, 3) := by decide +kernel
theorem dX12_findNeeds_7 : decode cX12_findNeeds 7 = .ok (.if_icmp .ge 16, 3) := by decide +kernel
theorem dX12_findNeeds_10 : decode cX12_findNeeds 10 = .ok (.aload_n 0, 1) := by decide +kernel
theorem dX12_findNeeds_11 : decode cX12_findNeeds 11 = .ok (.getfield 96, 3) := by decide +kernel
theorem dX12_findNeeds_14 : decode cX12_findNeeds 14 = .ok (.iload_n 1, 1) := by decide +kernel
theorem dX12_findNeeds_15 : decode cX12_findNeeds 15 = .ok (.iconst 0, 1) := by decide +kernel
theorem dX12_findNeeds_16 : decode cX12_findNeeds 16 = .ok (.bastore, 1) := by decide +kernel
theorem dX12_findNeeds_17 : decode cX12_findNeeds 17 = .ok (.iinc 1 1, 3) := by decide +kernel
theorem dX12_findNeeds_20 : decode cX12_findNeeds 20 = .ok (.goto (-18), 3) := by decide +kernel
theorem dX12_findNeeds_23 : decode cX12_findNeeds 23 = .ok (.iconst 1, 1) := by decide +kernel
theorem dX12_findNeeds_24 : decode cX12_findNeeds 24 = .ok (.istore_n 1, 1) := by decide +kernel
theorem dX12_findNeeds_25 : decode cX12_findNeeds 25 = .ok (.iload_n 1, 1) := by decide +kernel
theorem dX12_findNeeds_26 : decode cX12_findNeeds 26 = .ok (.ifCond .eq 146, 3) := by decide +kernel
theorem dX12_findNeeds_29 : decode cX12_findNeeds 29 = .ok (.iconst 0, 1) := by decide +kernel
theorem dX12_findNeeds_30 : decode cX12_findNeeds 30 = .ok (.istore_n 1, 1) := by decide +kernel
theorem dX12_findNeeds_31 : decode cX12_findNeeds 31 = .ok (.iconst 0, 1) := by decide +kernel
theorem dX12_findNeeds_32 : decode cX12_findNeeds 32 = .ok (.istore_n 2, 1) := by decide +kernel
theorem dX12_findNeeds_33 : decode cX12_findNeeds 33 = .ok (.iload_n 2, 1) := by decide +kernel
theorem dX12_findNeeds_34 : decode cX12_findNeeds 34 = .ok (.aload_n 0, 1) := by decide +kernel
theorem dX12_findNeeds_35 : decode cX12_findNeeds 35 = .ok (.getfield 418, 3) := by decide +kernel
theorem dX12_findNeeds_38 : decode cX12_findNeeds 38 = .ok (.if_icmp .ge 42, 3) := by decide +kernel
theorem dX12_findNeeds_41 : decode cX12_findNeeds 41 = .ok (.aload_n 0, 1) := by decide +kernel
theorem dX12_findNeeds_42 : decode cX12_findNeeds 42 = .ok (.getfield 130, 3) := by decide +kernel
theorem dX12_findNeeds_45 : decode cX12_findNeeds 45 = .ok (.iload_n 2, 1) := by decide +kernel
theorem dX12_findNeeds_46 : decode cX12_findNeeds 46 = .ok (.iaload, 1) := by decide +kernel
theorem dX12_findNeeds_47 : decode cX12_findNeeds 47 = .ok (.istore_n 3, 1) := by decide +kernel
theorem dX12_findNeeds_48 : decode cX12_findNeeds 48 = .ok (.aload_n 0, 1) := by decide +kernel
theorem dX12_findNeeds_49 : decode cX12_findNeeds 49 = .ok (.getfield 96, 3) := by decide +kernel
theorem dX12_findNeeds_52 : decode cX12_findNeeds 52 = .ok (.iload_n 3, 1) := by decide +kernel
theorem dX12_findNeeds_53 : decode cX12_findNeeds 53 = .ok (.baload, 1) := by decide +kernel
theorem dX12_findNeeds_54 : decode cX12_findNeeds 54 = .ok (.ifCond .ne 20, 3) := by decide +kernel
theorem dX12_findNeeds_57 : decode cX12_findNeeds 57 = .ok (.aload_n 0, 1) := by decide +kernel
theorem dX12_findNeeds_58 : decode cX12_findNeeds 58 = .ok (.iload_n 2, 1) := by decide +kernel
theorem dX12_findNeeds_59 : decode cX12_findNeeds 59 = .ok (.invokevirtual 638, 3) := by decide +kernel
theorem dX12_findNeeds_62 : decode cX12_findNeeds 62 = .ok (.ifCond .eq 12, 3) := by decide +kernel
theorem dX12_findNeeds_65 : decode cX12_findNeeds 65 = .ok (.aload_n 0, 1) := by decide +kernel
theorem dX12_findNeeds_66 : decode cX12_findNeeds 66 = .ok (.getfield 96, 3) := by decide +kernel
theorem dX12_findNeeds_69 : decode cX12_findNeeds 69 = .ok (.iload_n 3, 1) := by decide +kernel
theorem dX12_findNeeds_70 : decode cX12_findNeeds 70 = .ok (.iconst 1, 1) := by decide +kernel
theorem dX12_findNeeds_71 : decode cX12_findNeeds 71 = .ok (.bastore, 1) := by decide +kernel
theorem dX12_findNeeds_72 : decode cX12_findNeeds 72 = .ok (.iconst 1, 1) := by decide +kernel
theorem dX12_findNeeds_73 : decode cX12_findNeeds 73 = .ok (.istore_n 1, 1) := by decide +kernel
theorem dX12_findNeeds_74 : decode cX12_findNeeds 74 = .ok (.iinc 2 1, 3) := by decide +kernel
theorem dX12_findNeeds_77 : decode cX12_findNeeds 77 = .ok (.goto (-44), 3) := by decide +kernel
theorem dX12_findNeeds_80 : decode cX12_findNeeds 80 = .ok (.iconst 0, 1) := by decide +kernel
theorem dX12_findNeeds_81 : decode cX12_findNeeds 81 = .ok (.istore_n 2, 1) := by decide +kernel
theorem dX12_findNeeds_82 : decode cX12_findNeeds 82 = .ok (.iload_n 2, 1) := by decide +kernel
theorem dX12_findNeeds_83 : decode cX12_findNeeds 83 = .ok (.aload_n 0, 1) := by decide +kernel
theorem dX12_findNeeds_84 : decode cX12_findNeeds 84 = .ok (.getfield 437, 3) := by decide +kernel
theorem dX12_findNeeds_87 : decode cX12_findNeeds 87 = .ok (.if_icmp .ge 82, 3) := by decide +kernel
theorem dX12_findNeeds_90 : decode cX12_findNeeds 90 = .ok (.iconst 0, 1) := by decide +kernel
theorem dX12_findNeeds_91 : decode cX12_findNeeds 91 = .ok (.istore_n 3, 1) := by decide +kernel
theorem dX12_findNeeds_92 : decode cX12_findNeeds 92 = .ok (.iload_n 3, 1) := by decide +kernel
theorem dX12_findNeeds_93 : decode cX12_findNeeds 93 = .ok (.aload_n 0, 1) := by decide +kernel
theorem dX12_findNeeds_94 : decode cX12_findNeeds 94 = .ok (.getfield 437, 3) := by decide +kernel
theorem dX12_findNeeds_97 : decode cX12_findNeeds 97 = .ok (.if_icmp .ge 66, 3) := by decide +kernel
theorem dX12_findNeeds_100 : decode cX12_findNeeds 100 = .ok (.aload_n 0, 1) := by decide +kernel
theorem dX12_findNeeds_101 : decode cX12_findNeeds 101 = .ok (.getfield 96, 3) := by decide +kernel
theorem dX12_findNeeds_104 : decode cX12_findNeeds 104 = .ok (.iload_n 2, 1) := by decide +kernel
theorem dX12_findNeeds_105 : decode cX12_findNeeds 105 = .ok (.baload, 1) := by decide +kernel
theorem dX12_findNeeds_106 : decode cX12_findNeeds 106 = .ok (.ifCond .ne 57, 3) := by decide +kernel
theorem dX12_findNeeds_109 : decode cX12_findNeeds 109 = .ok (.aload_n 0, 1) := by decide +kernel
theorem dX12_findNeeds_110 : decode cX12_findNeeds 110 = .ok (.getfield 96, 3) := by decide +kernel
theorem dX12_findNeeds_113 : decode cX12_findNeeds 113 = .ok (.iload_n 2, 1) := by decide +kernel
theorem dX12_findNeeds_114 : decode cX12_findNeeds 114 = .ok (.aload_n 0, 1) := by decide +kernel
theorem dX12_findNeeds_115 : decode cX12_findNeeds 115 = .ok (.getfield 96, 3) := by decide +kernel
theorem dX12_findNeeds_118 : decode cX12_findNeeds 118 = .ok (.iload_n 3, 1) := by decide +kernel
theorem dX12_findNeeds_119 : decode cX12_findNeeds 119 = .ok (.baload, 1) := by decide +kernel
theorem dX12_findNeeds_120 : decode cX12_findNeeds 120 = .ok (.ifCond .eq 16, 3) := by decide +kernel
theorem dX12_findNeeds_123 : decode cX12_findNeeds 123 = .ok (.aload_n 0, 1) := by decide +kernel
theorem dX12_findNeeds_124 : decode cX12_findNeeds 124 = .ok (.iload_n 2, 1) := by decide +kernel
theorem dX12_findNeeds_125 : decode cX12_findNeeds 125 = .ok (.iload_n 3, 1) := by decide +kernel
theorem dX12_findNeeds_126 : decode cX12_findNeeds 126 = .ok (.invokevirtual 641, 3) := by decide +kernel
theorem dX12_findNeeds_129 : decode cX12_findNeeds 129 = .ok (.ifCond .eq 7, 3) := by decide +kernel
theorem dX12_findNeeds_132 : decode cX12_findNeeds 132 = .ok (.iconst 1, 1) := by decide +kernel
theorem dX12_findNeeds_133 : decode cX12_findNeeds 133 = .ok (.goto 4, 3) := by decide +kernel
theorem dX12_findNeeds_136 : decode cX12_findNeeds 136 = .ok (.iconst 0, 1) := by decide +kernel
theorem dX12_findNeeds_137 : decode cX12_findNeeds 137 = .ok (.bastore, 1) := by decide +kernel
theorem dX12_findNeeds_138 : decode cX12_findNeeds 138 = .ok (.iload_n 1, 1) := by decide +kernel
theorem dX12_findNeeds_139 : decode cX12_findNeeds 139 = .ok (.ifCond .ne 12, 3) := by decide +kernel
theorem dX12_findNeeds_142 : decode cX12_findNeeds 142 = .ok (.aload_n 0, 1) := by decide +kernel
theorem dX12_findNeeds_143 : decode cX12_findNeeds 143 = .ok (.getfield 96, 3) := by decide +kernel
theorem dX12_findNeeds_146 : decode cX12_findNeeds 146 = .ok (.iload_n 2, 1) := by decide +kernel
theorem dX12_findNeeds_147 : decode cX12_findNeeds 147 = .ok (.baload, 1) := by decide +kernel
theorem dX12_findNeeds_148 : decode cX12_findNeeds 148 = .ok (.ifCond .eq 7, 3) := by decide +kernel
theorem dX12_findNeeds_151 : decode cX12_findNeeds 151 = .ok (.iconst 1, 1) := by decide +kernel
theorem dX12_findNeeds_152 : decode cX12_findNeeds 152 = .ok (.goto 4, 3) := by decide +kernel
theorem dX12_findNeeds_155 : decode cX12_findNeeds 155 = .ok (.iconst 0, 1) := by decide +kernel
theorem dX12_findNeeds_156 : decode cX12_findNeeds 156 = .ok (.istore_n 1, 1) := by decide +kernel
theorem dX12_findNeeds_157 : decode cX12_findNeeds 157 = .ok (.iinc 3 1, 3) := by decide +kernel
theorem dX12_findNeeds_160 : decode cX12_findNeeds 160 = .ok (.goto (-68), 3) := by decide +kernel
theorem dX12_findNeeds_163 : decode cX12_findNeeds 163 = .ok (.iinc 2 1, 3) := by decide +kernel
theorem dX12_findNeeds_166 : decode cX12_findNeeds 166 = .ok (.goto (-84), 3) := by decide +kernel
theorem dX12_findNeeds_169 : decode cX12_findNeeds 169 = .ok (.goto (-144), 3) := by decide +kernel
theorem dX12_findNeeds_172 : decode cX12_findNeeds 172 = .ok (.return_, 1) := by decide +kernel
theorem dX12_put_0 : decode cX12_put 0 = .ok (.aload_n 0, 1) := by decide +kernel
theorem dX12_put_1 : decode cX12_put 1 = .ok (.getfield 149, 3) := by decide +kernel
theorem dX12_put_4 : decode cX12_put 4 = .ok (.aload_n 0, 1) := by decide +kernel
theorem dX12_put_5 : decode cX12_put 5 = .ok (.getfield 644, 3) := by decide +kernel
theorem dX12_put_8 : decode cX12_put 8 = .ok (.iload_n 1, 1) := by decide +kernel
theorem dX12_put_9 : decode cX12_put 9 = .ok (.i2b, 1) := by decide +kernel
theorem dX12_put_10 : decode cX12_put 10 = .ok (.bastore, 1) := by decide +kernel
theorem dX12_put_11 : decode cX12_put 11 = .ok (.aload_n 0, 1) := by decide +kernel
theorem dX12_put_12 : decode cX12_put 12 = .ok (.dup, 1) := by decide +kernel
theorem dX12_put_13 : decode cX12_put 13 = .ok (.getfield 644, 3) := by decide +kernel
theorem dX12_put_16 : decode cX12_put 16 = .ok (.iconst 1, 1) := by decide +kernel
theorem dX12_put_17 : decode cX12_put 17 = .ok (.iadd, 1) := by decide +kernel
theorem dX12_put_18 : decode cX12_put 18 = .ok (.putfield 644, 3) := by decide +kernel
theorem dX12_put_21 : decode cX12_put 21 = .ok (.return_, 1) := by decide +kernel
theorem dX12_putNumber_0 : decode cX12_putNumber 0 = .ok (.aload_n 0, 1) := by decide +kernel
theorem dX12_putNumber_1 : decode cX12_putNumber 1 = .ok (.iload_n 1, 1) := by decide +kernel
theorem dX12_putNumber_2 : decode cX12_putNumber 2 = .ok (.bipush 8, 2) := by decide +kernel
theorem dX12_putNumber_4 : decode cX12_putNumber 4 = .ok (.ishr, 1) := by decide +kernel
theorem dX12_putNumber_5 : decode cX12_putNumber 5 = .ok (.invokevirtual 647, 3) := by decide +kernel
theorem dX12_putNumber_8 : decode cX12_putNumber 8 = .ok (.aload_n 0, 1) := by decide +kernel
theorem dX12_putNumber_9 : decode cX12_putNumber 9 = .ok (.iload_n 1, 1) := by decide +kernel
theorem dX12_putNumber_10 : decode cX12_putNumber 10 = .ok (.invokevirtual 647, 3) := by decide +kernel
theorem dX12_putNumber_13 : decode cX12_putNumber 13 = .ok (.return_, 1) := by decide +kernel
theorem dX12_put__0 : decode cX12_put_ 0 = .ok (.aload_n 0, 1) := by decide +kernel
theorem dX12_put__1 : decode cX12_put_ 1 = .ok (.iload_n 1, 1) := by decide +kernel
theorem dX12_put__2 : decode cX12_put_ 2 = .ok (.invokevirtual 647, 3) := by decide +kernel
theorem dX12_put__5 : decode cX12_put_ 5 = .ok (.aload_n 0, 1) := by decide +kernel
theorem dX12_put__6 : decode cX12_put_ 6 = .ok (.iload_n 2, 1) := by decide +kernel
theorem dX12_put__7 : decode cX12_put_ 7 = .ok (.invokevirtual 650, 3) := by decide +kernel
theorem dX12_put__10 : decode cX12_put_ 10 = .ok (.return_, 1) := by decide +kernel
theorem dX12_codeBegin_0 : decode cX12_codeBegin 0 = .ok (.aload_n 0, 1) := by decide +kernel
theorem dX12_codeBegin_1 : decode cX12_codeBegin 1 = .ok (.getfield 153, 3) := by decide +kernel
theorem dX12_codeBegin_4 : decode cX12_codeBegin 4 = .ok (.iconst 2, 1) := by decide +kernel
theorem dX12_codeBegin_5 : decode cX12_codeBegin 5 = .ok (.aload_n 0, 1) := by decide +kernel
theorem dX12_codeBegin_6 : decode cX12_codeBegin 6 = .ok (.getfield 653, 3) := by decide +kernel
theorem dX12_codeBegin_9 : decode cX12_codeBegin 9 = .ok (.imul, 1) := by decide +kernel
theorem dX12_codeBegin_10 : decode cX12_codeBegin 10 = .ok (.aload_n 0, 1) := by decide +kernel
theorem dX12_codeBegin_11 : decode cX12_codeBegin 11 = .ok (.getfield 656, 3) := by decide +kernel
theorem dX12_codeBegin_14 : decode cX12_codeBegin 14 = .ok (.ifCond .eq 7, 3) := by decide +kernel
theorem dX12_codeBegin_17 : decode cX12_codeBegin 17 = .ok (.iconst 1, 1) := by decide +kernel
theorem dX12_codeBegin_18 : decode cX12_codeBegin 18 = .ok (.goto 4, 3) := by decide +kernel
theorem dX12_codeBegin_21 : decode cX12_codeBegin 21 = .ok (.iconst 0, 1) := by decide +kernel
theorem dX12_codeBegin_22 : decode cX12_codeBegin 22 = .ok (.iadd, 1) := by decide +kernel
theorem dX12_codeBegin_23 : decode cX12_codeBegin 23 = .ok (.iaload, 1) := by decide +kernel
theorem dX12_codeBegin_24 : decode cX12_codeBegin 24 = .ok (.ireturn, 1) := by decide +kernel
theorem dX12_localsOf_0 : decode cX12_localsOf 0 = .ok (.aload_n 0, 1) := by decide +kernel
theorem dX12_localsOf_1 : decode cX12_localsOf 1 = .ok (.getfield 87, 3) := by decide +kernel
theorem dX12_localsOf_4 : decode cX12_localsOf 4 = .ok (.iload_n 1, 1) := by decide +kernel
theorem dX12_localsOf_5 : decode cX12_localsOf 5 = .ok (.iaload, 1) := by decide +kernel
theorem dX12_localsOf_6 : decode cX12_localsOf 6 = .ok (.aload_n 0, 1) := by decide +kernel
theorem dX12_localsOf_7 : decode cX12_localsOf 7 = .ok (.getfield 63, 3) := by decide +kernel
theorem dX12_localsOf_10 : decode cX12_localsOf 10 = .ok (.iload_n 1, 1) := by decide +kernel
theorem dX12_localsOf_11 : decode cX12_localsOf 11 = .ok (.iaload, 1) := by decide +kernel
theorem dX12_localsOf_12 : decode cX12_localsOf 12 = .ok (.ifCond .ne 7, 3) := by decide +kernel
theorem dX12_localsOf_15 : decode cX12_localsOf 15 = .ok (.iconst 1, 1) := by decide +kernel
theorem dX12_localsOf_16 : decode cX12_localsOf 16 = .ok (.goto 4, 3) := by decide +kernel
theorem dX12_localsOf_19 : decode cX12_localsOf 19 = .ok (.iconst 0, 1) := by decide +kernel
theorem dX12_localsOf_20 : decode cX12_localsOf 20 = .ok (.iadd, 1) := by decide +kernel
theorem dX12_localsOf_21 : decode cX12_localsOf 21 = .ok (.aload_n 0, 1) := by decide +kernel
theorem dX12_localsOf_22 : decode cX12_localsOf 22 = .ok (.getfield 72, 3) := by decide +kernel
theorem dX12_localsOf_25 : decode cX12_localsOf 25 = .ok (.iload_n 1, 1) := by decide +kernel
theorem dX12_localsOf_26 : decode cX12_localsOf 26 = .ok (.iaload, 1) := by decide +kernel
theorem dX12_localsOf_27 : decode cX12_localsOf 27 = .ok (.iadd, 1) := by decide +kernel
theorem dX12_localsOf_28 : decode cX12_localsOf 28 = .ok (.aload_n 0, 1) := by decide +kernel
theorem dX12_localsOf_29 : decode cX12_localsOf 29 = .ok (.getfield 93, 3) := by decide +kernel
theorem dX12_localsOf_32 : decode cX12_localsOf 32 = .ok (.iload_n 1, 1) := by decide +kernel
theorem dX12_localsOf_33 : decode cX12_localsOf 33 = .ok (.iaload, 1) := by decide +kernel
theorem dX12_localsOf_34 : decode cX12_localsOf 34 = .ok (.iadd, 1) := by decide +kernel
theorem dX12_localsOf_35 : decode cX12_localsOf 35 = .ok (.ireturn, 1) := by decide +kernel
theorem dX12_localOf_0 : decode cX12_localOf 0 = .ok (.iconst 0, 1) := by decide +kernel
theorem dX12_localOf_1 : decode cX12_localOf 1 = .ok (.istore_n 3, 1) := by decide +kernel
theorem dX12_localOf_2 : decode cX12_localOf 2 = .ok (.iload_n 3, 1) := by decide +kernel
theorem dX12_localOf_3 : decode cX12_localOf 3 = .ok (.aload_n 0, 1) := by decide +kernel
theorem dX12_localOf_4 : decode cX12_localOf 4 = .ok (.getfield 87, 3) := by decide +kernel
theorem dX12_localOf_7 : decode cX12_localOf 7 = .ok (.iload_n 1, 1) := by decide +kernel
theorem dX12_localOf_8 : decode cX12_localOf 8 = .ok (.iaload, 1) := by decide +kernel
theorem dX12_localOf_9 : decode cX12_localOf 9 = .ok (.if_icmp .ge 26, 3) := by decide +kernel
theorem dX12_localOf_12 : decode cX12_localOf 12 = .ok (.aload_n 0, 1) := by decide +kernel
theorem dX12_localOf_13 : decode cX12_localOf 13 = .ok (.getfield 90, 3) := by decide +kernel
theorem dX12_localOf_16 : decode cX12_localOf 16 = .ok (.bipush 16, 2) := by decide +kernel
theorem dX12_localOf_18 : decode cX12_localOf 18 = .ok (.iload_n 1, 1) := by decide +kernel
theorem dX12_localOf_19 : decode cX12_localOf 19 = .ok (.imul, 1) := by decide +kernel
theorem dX12_localOf_20 : decode cX12_localOf 20 = .ok (.iload_n 3, 1) := by decide +kernel
theorem dX12_localOf_21 : decode cX12_localOf 21 = .ok (.iadd, 1) := by decide +kernel
theorem dX12_localOf_22 : decode cX12_localOf 22 = .ok (.iaload, 1) := by decide +kernel
theorem dX12_localOf_23 : decode cX12_localOf 23 = .ok (.iload_n 2, 1) := by decide +kernel
theorem dX12_localOf_24 : decode cX12_localOf 24 = .ok (.if_icmp .ne 5, 3) := by decide +kernel
theorem dX12_localOf_27 : decode cX12_localOf 27 = .ok (.iload_n 3, 1) := by decide +kernel
theorem dX12_localOf_28 : decode cX12_localOf 28 = .ok (.ireturn, 1) := by decide +kernel
theorem dX12_localOf_29 : decode cX12_localOf 29 = .ok (.iinc 3 1, 3) := by decide +kernel
theorem dX12_localOf_32 : decode cX12_localOf 32 = .ok (.goto (-30), 3) := by decide +kernel
theorem dX12_localOf_35 : decode cX12_localOf 35 = .ok (.aload_n 0, 1) := by decide +kernel
theorem dX12_localOf_36 : decode cX12_localOf 36 = .ok (.getfield 87, 3) := by decide +kernel
theorem dX12_localOf_39 : decode cX12_localOf 39 = .ok (.iload_n 1, 1) := by decide +kernel
theorem dX12_localOf_40 : decode cX12_localOf 40 = .ok (.iaload, 1) := by decide +kernel
theorem dX12_localOf_41 : decode cX12_localOf 41 = .ok (.aload_n 0, 1) := by decide +kernel
theorem dX12_localOf_42 : decode cX12_localOf 42 = .ok (.getfield 109, 3) := by decide +kernel
theorem dX12_localOf_45 : decode cX12_localOf 45 = .ok (.iload_n 2, 1) := by decide +kernel
theorem dX12_localOf_46 : decode cX12_localOf 46 = .ok (.iaload, 1) := by decide +kernel
theorem dX12_localOf_47 : decode cX12_localOf 47 = .ok (.iadd, 1) := by decide +kernel
theorem dX12_localOf_48 : decode cX12_localOf 48 = .ok (.aload_n 0, 1) := by decide +kernel
theorem dX12_localOf_49 : decode cX12_localOf 49 = .ok (.getfield 112, 3) := by decide +kernel
theorem dX12_localOf_52 : decode cX12_localOf 52 = .ok (.iload_n 2, 1) := by decide +kernel
theorem dX12_localOf_53 : decode cX12_localOf 53 = .ok (.baload, 1) := by decide +kernel
theorem dX12_localOf_54 : decode cX12_localOf 54 = .ok (.ifCond .eq 27, 3) := by decide +kernel
theorem dX12_localOf_57 : decode cX12_localOf 57 = .ok (.aload_n 0, 1) := by decide +kernel
theorem dX12_localOf_58 : decode cX12_localOf 58 = .ok (.getfield 72, 3) := by decide +kernel
theorem dX12_localOf_61 : decode cX12_localOf 61 = .ok (.iload_n 1, 1) := by decide +kernel
theorem dX12_localOf_62 : decode cX12_localOf 62 = .ok (.iaload, 1) := by decide +kernel
theorem dX12_localOf_63 : decode cX12_localOf 63 = .ok (.aload_n 0, 1) := by decide +kernel
theorem dX12_localOf_64 : decode cX12_localOf 64 = .ok (.getfield 63, 3) := by decide +kernel
theorem dX12_localOf_67 : decode cX12_localOf 67 = .ok (.iload_n 1, 1) := by decide +kernel
theorem dX12_localOf_68 : decode cX12_localOf 68 = .ok (.iaload, 1) := by decide +kernel
theorem dX12_localOf_69 : decode cX12_localOf 69 = .ok (.ifCond .ne 7, 3) := by decide +kernel
theorem dX12_localOf_72 : decode cX12_localOf 72 = .ok (.iconst 1, 1) := by decide +kernel
theorem dX12_localOf_73 : decode cX12_localOf 73 = .ok (.goto 4, 3) := by decide +kernel
theorem dX12_localOf_76 : decode cX12_localOf 76 = .ok (.iconst 0, 1) := by decide +kernel
theorem dX12_localOf_77 : decode cX12_localOf 77 = .ok (.iadd, 1) := by decide +kernel
theorem dX12_localOf_78 : decode cX12_localOf 78 = .ok (.goto 4, 3) := by decide +kernel
theorem dX12_localOf_81 : decode cX12_localOf 81 = .ok (.iconst 0, 1) := by decide +kernel
theorem dX12_localOf_82 : decode cX12_localOf 82 = .ok (.iadd, 1) := by decide +kernel
theorem dX12_localOf_83 : decode cX12_localOf 83 = .ok (.ireturn, 1) := by decide +kernel
theorem dX12_writeAll_0 : decode cX12_writeAll 0 = .ok (.aload_n 0, 1) := by decide +kernel
theorem dX12_writeAll_1 : decode cX12_writeAll 1 = .ok (.iconst 0, 1) := by decide +kernel
theorem dX12_writeAll_2 : decode cX12_writeAll 2 = .ok (.putfield 644, 3) := by decide +kernel
theorem dX12_writeAll_5 : decode cX12_writeAll 5 = .ok (.iconst 0, 1) := by decide +kernel
theorem dX12_writeAll_6 : decode cX12_writeAll 6 = .ok (.istore_n 1, 1) := by decide +kernel
theorem dX12_writeAll_7 : decode cX12_writeAll 7 = .ok (.iload_n 1, 1) := by decide +kernel
theorem dX12_writeAll_8 : decode cX12_writeAll 8 = .ok (.iconst 2, 1) := by decide +kernel
theorem dX12_writeAll_9 : decode cX12_writeAll 9 = .ok (.if_icmp .ge 109, 3) := by decide +kernel
theorem dX12_writeAll_12 : decode cX12_writeAll 12 = .ok (.aload_n 0, 1) := by decide +kernel
theorem dX12_writeAll_13 : decode cX12_writeAll 13 = .ok (.iload_n 1, 1) := by decide +kernel
theorem dX12_writeAll_14 : decode cX12_writeAll 14 = .ok (.iconst 1, 1) := by decide +kernel
theorem dX12_writeAll_15 : decode cX12_writeAll 15 = .ok (.if_icmp .ne 7, 3) := by decide +kernel
theorem dX12_writeAll_18 : decode cX12_writeAll 18 = .ok (.iconst 1, 1) := by decide +kernel
theorem dX12_writeAll_19 : decode cX12_writeAll 19 = .ok (.goto 4, 3) := by decide +kernel
theorem dX12_writeAll_22 : decode cX12_writeAll 22 = .ok (.iconst 0, 1) := by decide +kernel
theorem dX12_writeAll_23 : decode cX12_writeAll 23 = .ok (.putfield 656, 3) := by decide +kernel
theorem dX12_writeAll_26 : decode cX12_writeAll 26 = .ok (.iconst 0, 1) := by decide +kernel
theorem dX12_writeAll_27 : decode cX12_writeAll 27 = .ok (.istore_n 2, 1) := by decide +kernel
theorem dX12_writeAll_28 : decode cX12_writeAll 28 = .ok (.iload_n 2, 1) := by decide +kernel
theorem dX12_writeAll_29 : decode cX12_writeAll 29 = .ok (.aload_n 0, 1) := by decide +kernel
theorem dX12_writeAll_30 : decode cX12_writeAll 30 = .ok (.getfield 437, 3) := by decide +kernel
theorem dX12_writeAll_33 : decode cX12_writeAll 33 = .ok (.if_icmp .ge 79, 3) := by decide +kernel
theorem dX12_writeAll_36 : decode cX12_writeAll 36 = .ok (.aload_n 0, 1) := by decide +kernel
theorem dX12_writeAll_37 : decode cX12_writeAll 37 = .ok (.iload_n 2, 1) := by decide +kernel
theorem dX12_writeAll_38 : decode cX12_writeAll 38 = .ok (.putfield 653, 3) := by decide +kernel
theorem dX12_writeAll_41 : decode cX12_writeAll 41 = .ok (.aload_n 0, 1) := by decide +kernel
theorem dX12_writeAll_42 : decode cX12_writeAll 42 = .ok (.getfield 153, 3) := by decide +kernel
theorem dX12_writeAll_45 : decode cX12_writeAll 45 = .ok (.iconst 2, 1) := by decide +kernel
theorem dX12_writeAll_46 : decode cX12_writeAll 46 = .ok (.iload_n 2, 1) := by decide +kernel
theorem dX12_writeAll_47 : decode cX12_writeAll 47 = .ok (.imul, 1) := by decide +kernel
theorem dX12_writeAll_48 : decode cX12_writeAll 48 = .ok (.iload_n 1, 1) := by decide +kernel
theorem dX12_writeAll_49 : decode cX12_writeAll 49 = .ok (.iadd, 1) := by decide +kernel
theorem dX12_writeAll_50 : decode cX12_writeAll 50 = .ok (.aload_n 0, 1) := by decide +kernel
theorem dX12_writeAll_51 : decode cX12_writeAll 51 = .ok (.getfield 644, 3) := by decide +kernel
theorem dX12_writeAll_54 : decode cX12_writeAll 54 = .ok (.iastore, 1) := by decide +kernel
theorem dX12_writeAll_55 : decode cX12_writeAll 55 = .ok (.aload_n 0, 1) := by decide +kernel
theorem dX12_writeAll_56 : decode cX12_writeAll 56 = .ok (.getfield 656, 3) := by decide +kernel
theorem dX12_writeAll_59 : decode cX12_writeAll 59 = .ok (.ifCond .eq 17, 3) := by decide +kernel
theorem dX12_writeAll_62 : decode cX12_writeAll 62 = .ok (.aload_n 0, 1) := by decide +kernel
theorem dX12_writeAll_63 : decode cX12_writeAll 63 = .ok (.getfield 96, 3) := by decide +kernel
theorem dX12_writeAll_66 : decode cX12_writeAll 66 = .ok (.iload_n 2, 1) := by decide +kernel
theorem dX12_writeAll_67 : decode cX12_writeAll 67 = .ok (.baload, 1) := by decide +kernel
theorem dX12_writeAll_68 : decode cX12_writeAll 68 = .ok (.ifCond .eq 8, 3) := by decide +kernel
theorem dX12_writeAll_71 : decode cX12_writeAll 71 = .ok (.aload_n 0, 1) := by decide +kernel
theorem dX12_writeAll_72 : decode cX12_writeAll 72 = .ok (.iload_n 2, 1) := by decide +kernel
theorem dX12_writeAll_73 : decode cX12_writeAll 73 = .ok (.invokevirtual 659, 3) := by decide +kernel
theorem dX12_writeAll_76 : decode cX12_writeAll 76 = .ok (.aload_n 0, 1) := by decide +kernel
theorem dX12_writeAll_77 : decode cX12_writeAll 77 = .ok (.aload_n 0, 1) := by decide +kernel
theorem dX12_writeAll_78 : decode cX12_writeAll 78 = .ok (.getfield 78, 3) := by decide +kernel
theorem dX12_writeAll_81 : decode cX12_writeAll 81 = .ok (.iload_n 2, 1) := by decide +kernel
theorem dX12_writeAll_82 : decode cX12_writeAll 82 = .ok (.iaload, 1) := by decide +kernel
theorem dX12_writeAll_83 : decode cX12_writeAll 83 = .ok (.invokevirtual 662, 3) := by decide +kernel
theorem dX12_writeAll_86 : decode cX12_writeAll 86 = .ok (.aload_n 0, 1) := by decide +kernel
theorem dX12_writeAll_87 : decode cX12_writeAll 87 = .ok (.bipush 28, 2) := by decide +kernel
theorem dX12_writeAll_89 : decode cX12_writeAll 89 = .ok (.invokevirtual 647, 3) := by decide +kernel
theorem dX12_writeAll_92 : decode cX12_writeAll 92 = .ok (.aload_n 0, 1) := by decide +kernel
theorem dX12_writeAll_93 : decode cX12_writeAll 93 = .ok (.getfield 156, 3) := by decide +kernel
theorem dX12_writeAll_96 : decode cX12_writeAll 96 = .ok (.iconst 2, 1) := by decide +kernel
theorem dX12_writeAll_97 : decode cX12_writeAll 97 = .ok (.iload_n 2, 1) := by decide +kernel
theorem dX12_writeAll_98 : decode cX12_writeAll 98 = .ok (.imul, 1) := by decide +kernel
theorem dX12_writeAll_99 : decode cX12_writeAll 99 = .ok (.iload_n 1, 1) := by decide +kernel
theorem dX12_writeAll_100 : decode cX12_writeAll 100 = .ok (.iadd, 1) := by decide +kernel
theorem dX12_writeAll_101 : decode cX12_writeAll 101 = .ok (.aload_n 0, 1) := by decide +kernel
theorem dX12_writeAll_102 : decode cX12_writeAll 102 = .ok (.getfield 644, 3) := by decide +kernel
theorem dX12_writeAll_105 : decode cX12_writeAll 105 = .ok (.iastore, 1) := by decide +kernel
theorem dX12_writeAll_106 : decode cX12_writeAll 106 = .ok (.iinc 2 1, 3) := by decide +kernel
theorem dX12_writeAll_109 : decode cX12_writeAll 109 = .ok (.goto (-81), 3) := by decide +kernel
theorem dX12_writeAll_112 : decode cX12_writeAll 112 = .ok (.iinc 1 1, 3) := by decide +kernel
theorem dX12_writeAll_115 : decode cX12_writeAll 115 = .ok (.goto (-108), 3) := by decide +kernel
theorem dX12_writeAll_118 : decode cX12_writeAll 118 = .ok (.return_, 1) := by decide +kernel
theorem dX12_opening_0 : decode cX12_opening 0 = .ok (.aload_n 0, 1) := by decide +kernel
theorem dX12_opening_1 : decode cX12_opening 1 = .ok (.getfield 57, 3) := by decide +kernel
theorem dX12_opening_4 : decode cX12_opening 4 = .ok (.aload_n 0, 1) := by decide +kernel
theorem dX12_opening_5 : decode cX12_opening 5 = .ok (.getfield 66, 3) := by decide +kernel
theorem dX12_opening_8 : decode cX12_opening 8 = .ok (.iload_n 1, 1) := by decide +kernel
theorem dX12_opening_9 : decode cX12_opening 9 = .ok (.iaload, 1) := by decide +kernel
theorem dX12_opening_10 : decode cX12_opening 10 = .ok (.iaload, 1) := by decide +kernel
theorem dX12_opening_11 : decode cX12_opening 11 = .ok (.istore_n 2, 1) := by decide +kernel
theorem dX12_opening_12 : decode cX12_opening 12 = .ok (.aload_n 0, 1) := by decide +kernel
theorem dX12_opening_13 : decode cX12_opening 13 = .ok (.aload_n 0, 1) := by decide +kernel
theorem dX12_opening_14 : decode cX12_opening 14 = .ok (.getfield 63, 3) := by decide +kernel
theorem dX12_opening_17 : decode cX12_opening 17 = .ok (.iload_n 1, 1) := by decide +kernel
theorem dX12_opening_18 : decode cX12_opening 18 = .ok (.iaload, 1) := by decide +kernel
theorem dX12_opening_19 : decode cX12_opening 19 = .ok (.iconst 2, 1) := by decide +kernel
theorem dX12_opening_20 : decode cX12_opening 20 = .ok (.if_icmp .ne 8, 3) := by decide +kernel
theorem dX12_opening_23 : decode cX12_opening 23 = .ok (.bipush 31, 2) := by decide +kernel
theorem dX12_opening_25 : decode cX12_opening 25 = .ok (.goto 35, 3) := by decide +kernel
theorem dX12_opening_28 : decode cX12_opening 28 = .ok (.aload_n 0, 1) := by decide +kernel
theorem dX12_opening_29 : decode cX12_opening 29 = .ok (.getfield 63, 3) := by decide +kernel
theorem dX12_opening_32 : decode cX12_opening 32 = .ok (.iload_n 1, 1) := by decide +kernel
theorem dX12_opening_33 : decode cX12_opening 33 = .ok (.iaload, 1) := by decide +kernel
theorem dX12_opening_34 : decode cX12_opening 34 = .ok (.iconst 3, 1) := by decide +kernel
theorem dX12_opening_35 : decode cX12_opening 35 = .ok (.if_icmp .ne 8, 3) := by decide +kernel
theorem dX12_opening_38 : decode cX12_opening 38 = .ok (.bipush 32, 2) := by decide +kernel
theorem dX12_opening_40 : decode cX12_opening 40 = .ok (.goto 20, 3) := by decide +kernel
theorem dX12_opening_43 : decode cX12_opening 43 = .ok (.aload_n 0, 1) := by decide +kernel
theorem dX12_opening_44 : decode cX12_opening 44 = .ok (.getfield 63, 3) := by decide +kernel
theorem dX12_opening_47 : decode cX12_opening 47 = .ok (.iload_n 1, 1) := by decide +kernel
theorem dX12_opening_48 : decode cX12_opening 48 = .ok (.iaload, 1) := by decide +kernel
theorem dX12_opening_49 : decode cX12_opening 49 = .ok (.iconst 4, 1) := by decide +kernel
theorem dX12_opening_50 : decode cX12_opening 50 = .ok (.if_icmp .ne 8, 3) := by decide +kernel
theorem dX12_opening_53 : decode cX12_opening 53 = .ok (.bipush 33, 2) := by decide +kernel
theorem dX12_opening_55 : decode cX12_opening 55 = .ok (.goto 5, 3) := by decide +kernel
theorem dX12_opening_58 : decode cX12_opening 58 = .ok (.bipush 30, 2) := by decide +kernel
theorem dX12_opening_60 : decode cX12_opening 60 = .ok (.iload_n 2, 1) := by decide +kernel
theorem dX12_opening_61 : decode cX12_opening 61 = .ok (.invokevirtual 665, 3) := by decide +kernel
theorem dX12_opening_64 : decode cX12_opening 64 = .ok (.aload_n 0, 1) := by decide +kernel
theorem dX12_opening_65 : decode cX12_opening 65 = .ok (.getfield 63, 3) := by decide +kernel
theorem dX12_opening_68 : decode cX12_opening 68 = .ok (.iload_n 1, 1) := by decide +kernel
theorem dX12_opening_69 : decode cX12_opening 69 = .ok (.iaload, 1) := by decide +kernel
theorem dX12_opening_70 : decode cX12_opening 70 = .ok (.iconst 3, 1) := by decide +kernel
theorem dX12_opening_71 : decode cX12_opening 71 = .ok (.if_icmp .ne 13, 3) := by decide +kernel
theorem dX12_opening_74 : decode cX12_opening 74 = .ok (.aload_n 0, 1) := by decide +kernel
theorem dX12_opening_75 : decode cX12_opening 75 = .ok (.aload_n 0, 1) := by decide +kernel
theorem dX12_opening_76 : decode cX12_opening 76 = .ok (.getfield 81, 3) := by decide +kernel
theorem dX12_opening_79 : decode cX12_opening 79 = .ok (.iload_n 1, 1) := by decide +kernel
theorem dX12_opening_80 : decode cX12_opening 80 = .ok (.iaload, 1) := by decide +kernel
theorem dX12_opening_81 : decode cX12_opening 81 = .ok (.invokevirtual 650, 3) := by decide +kernel
theorem dX12_opening_84 : decode cX12_opening 84 = .ok (.return_, 1) := by decide +kernel
theorem dX12_isSpine_0 : decode cX12_isSpine 0 = .ok (.iload_n 0, 1) := by decide +kernel
theorem dX12_isSpine_1 : decode cX12_isSpine 1 = .ok (.iconst 5, 1) := by decide +kernel
theorem dX12_isSpine_2 : decode cX12_isSpine 2 = .ok (.if_icmp .eq 35, 3) := by decide +kernel
theorem dX12_isSpine_5 : decode cX12_isSpine 5 = .ok (.iload_n 0, 1) := by decide +kernel
theorem dX12_isSpine_6 : decode cX12_isSpine 6 = .ok (.bipush 6, 2) := by decide +kernel
theorem dX12_isSpine_8 : decode cX12_isSpine 8 = .ok (.if_icmp .eq 29, 3) := by decide +kernel
theorem dX12_isSpine_11 : decode cX12_isSpine 11 = .ok (.iload_n 0, 1) := by decide +kernel
theorem dX12_isSpine_12 : decode cX12_isSpine 12 = .ok (.bipush 7, 2) := by decide +kernel
theorem dX12_isSpine_14 : decode cX12_isSpine 14 = .ok (.if_icmp .eq 23, 3) := by decide +kernel
theorem dX12_isSpine_17 : decode cX12_isSpine 17 = .ok (.iload_n 0, 1) := by decide +kernel
theorem dX12_isSpine_18 : decode cX12_isSpine 18 = .ok (.bipush 8, 2) := by decide +kernel
theorem dX12_isSpine_20 : decode cX12_isSpine 20 = .ok (.if_icmp .eq 17, 3) := by decide +kernel
theorem dX12_isSpine_23 : decode cX12_isSpine 23 = .ok (.iload_n 0, 1) := by decide +kernel
theorem dX12_isSpine_24 : decode cX12_isSpine 24 = .ok (.i2l, 1) := by decide +kernel
theorem dX12_isSpine_25 : decode cX12_isSpine 25 = .ok (.ldc2_w 667, 3) := by decide +kernel
theorem dX12_isSpine_28 : decode cX12_isSpine 28 = .ok (.ldc2_w 669, 3) := by decide +kernel
theorem dX12_isSpine_31 : decode cX12_isSpine 31 = .ok (.invokestatic 274, 3) := by decide +kernel
theorem dX12_isSpine_34 : decode cX12_isSpine 34 = .ok (.ifCond .eq 7, 3) := by decide +kernel
theorem dX12_isSpine_37 : decode cX12_isSpine 37 = .ok (.iconst 1, 1) := by decide +kernel
theorem dX12_isSpine_38 : decode cX12_isSpine 38 = .ok (.goto 4, 3) := by decide +kernel
theorem dX12_isSpine_41 : decode cX12_isSpine 41 = .ok (.iconst 0, 1) := by decide +kernel
theorem dX12_isSpine_42 : decode cX12_isSpine 42 = .ok (.ireturn, 1) := by decide +kernel
theorem dX12_write_0 : decode cX12_write 0 = .ok (.iload_n 1, 1) := by decide +kernel
theorem dX12_write_1 : decode cX12_write 1 = .ok (.istore_n 2, 1) := by decide +kernel
theorem dX12_write_2 : decode cX12_write 2 = .ok (.aload_n 0, 1) := by decide +kernel
theorem dX12_write_3 : decode cX12_write 3 = .ok (.getfield 127, 3) := by decide +kernel
theorem dX12_write_6 : decode cX12_write 6 = .ok (.iload_n 2, 1) := by decide +kernel
theorem dX12_write_7 : decode cX12_write 7 = .ok (.iaload, 1) := by decide +kernel
theorem dX12_write_8 : decode cX12_write 8 = .ok (.invokestatic 671, 3) := by decide +kernel
theorem dX12_write_11 : decode cX12_write 11 = .ok (.ifCond .eq 13, 3) := by decide +kernel
theorem dX12_write_14 : decode cX12_write 14 = .ok (.aload_n 0, 1) := by decide +kernel
theorem dX12_write_15 : decode cX12_write 15 = .ok (.getfield 139, 3) := by decide +kernel
theorem dX12_write_18 : decode cX12_write 18 = .ok (.iload_n 2, 1) := by decide +kernel
theorem dX12_write_19 : decode cX12_write 19 = .ok (.iaload, 1) := by decide +kernel
theorem dX12_write_20 : decode cX12_write 20 = .ok (.istore_n 2, 1) := by decide +kernel
theorem dX12_write_21 : decode cX12_write 21 = .ok (.goto (-19), 3) := by decide +kernel
theorem dX12_write_24 : decode cX12_write 24 = .ok (.aload_n 0, 1) := by decide +kernel
theorem dX12_write_25 : decode cX12_write 25 = .ok (.iload_n 2, 1) := by decide +kernel
theorem dX12_write_26 : decode cX12_write 26 = .ok (.invokevirtual 674, 3) := by decide +kernel
theorem dX12_write_29 : decode cX12_write 29 = .ok (.iload_n 2, 1) := by decide +kernel
theorem dX12_write_30 : decode cX12_write 30 = .ok (.iload_n 1, 1) := by decide +kernel
theorem dX12_write_31 : decode cX12_write 31 = .ok (.if_icmp .eq 50, 3) := by decide +kernel
theorem dX12_write_34 : decode cX12_write 34 = .ok (.aload_n 0, 1) := by decide +kernel
theorem dX12_write_35 : decode cX12_write 35 = .ok (.getfield 145, 3) := by decide +kernel
theorem dX12_write_38 : decode cX12_write 38 = .ok (.iload_n 2, 1) := by decide +kernel
theorem dX12_write_39 : decode cX12_write 39 = .ok (.iaload, 1) := by decide +kernel
theorem dX12_write_40 : decode cX12_write 40 = .ok (.istore_n 2, 1) := by decide +kernel
theorem dX12_write_41 : decode cX12_write 41 = .ok (.aload_n 0, 1) := by decide +kernel
theorem dX12_write_42 : decode cX12_write 42 = .ok (.getfield 142, 3) := by decide +kernel
theorem dX12_write_45 : decode cX12_write 45 = .ok (.aload_n 0, 1) := by decide +kernel
theorem dX12_write_46 : decode cX12_write 46 = .ok (.getfield 139, 3) := by decide +kernel
theorem dX12_write_49 : decode cX12_write 49 = .ok (.iload_n 2, 1) := by decide +kernel
theorem dX12_write_50 : decode cX12_write 50 = .ok (.iaload, 1) := by decide +kernel
theorem dX12_write_51 : decode cX12_write 51 = .ok (.iaload, 1) := by decide +kernel
theorem dX12_write_52 : decode cX12_write 52 = .ok (.istore_n 3, 1) := by decide +kernel
theorem dX12_write_53 : decode cX12_write 53 = .ok (.iload_n 3, 1) := by decide +kernel
theorem dX12_write_54 : decode cX12_write 54 = .ok (.iconst (-1), 1) := by decide +kernel
theorem dX12_write_55 : decode cX12_write 55 = .ok (.if_icmp .eq 18, 3) := by decide +kernel
theorem dX12_write_58 : decode cX12_write 58 = .ok (.aload_n 0, 1) := by decide +kernel
theorem dX12_write_59 : decode cX12_write 59 = .ok (.iload_n 3, 1) := by decide +kernel
theorem dX12_write_60 : decode cX12_write 60 = .ok (.invokevirtual 662, 3) := by decide +kernel
theorem dX12_write_63 : decode cX12_write 63 = .ok (.aload_n 0, 1) := by decide +kernel
theorem dX12_write_64 : decode cX12_write 64 = .ok (.getfield 142, 3) := by decide +kernel
theorem dX12_write_67 : decode cX12_write 67 = .ok (.iload_n 3, 1) := by decide +kernel
theorem dX12_write_68 : decode cX12_write 68 = .ok (.iaload, 1) := by decide +kernel
theorem dX12_write_69 : decode cX12_write 69 = .ok (.istore_n 3, 1) := by decide +kernel
theorem dX12_write_70 : decode cX12_write 70 = .ok (.goto (-17), 3) := by decide +kernel
theorem dX12_write_73 : decode cX12_write 73 = .ok (.aload_n 0, 1) := by decide +kernel
theorem dX12_write_74 : decode cX12_write 74 = .ok (.iload_n 2, 1) := by decide +kernel
theorem dX12_write_75 : decode cX12_write 75 = .ok (.invokevirtual 677, 3) := by decide +kernel
theorem dX12_write_78 : decode cX12_write 78 = .ok (.goto (-49), 3) := by decide +kernel
theorem dX12_write_81 : decode cX12_write 81 = .ok (.return_, 1) := by decide +kernel
theorem dX12_begins_0 : decode cX12_begins 0 = .ok (.aload_n 0, 1) := by decide +kernel
theorem dX12_begins_1 : decode cX12_begins 1 = .ok (.getfield 656, 3) := by decide +kernel
theorem dX12_begins_4 : decode cX12_begins 4 = .ok (.ifCond .eq 31, 3) := by decide +kernel
theorem dX12_begins_7 : decode cX12_begins 7 = .ok (.iload_n 2, 1) := by decide +kernel
theorem dX12_begins_8 : decode cX12_begins 8 = .ok (.ifCond .eq 27, 3) := by decide +kernel
theorem dX12_begins_11 : decode cX12_begins 11 = .ok (.aload_n 0, 1) := by decide +kernel
theorem dX12_begins_12 : decode cX12_begins 12 = .ok (.iconst 2, 1) := by decide +kernel
theorem dX12_begins_13 : decode cX12_begins 13 = .ok (.aload_n 0, 1) := by decide +kernel
theorem dX12_begins_14 : decode cX12_begins 14 = .ok (.aload_n 0, 1) := by decide +kernel
theorem dX12_begins_15 : decode cX12_begins 15 = .ok (.getfield 653, 3) := by decide +kernel
theorem dX12_begins_18 : decode cX12_begins 18 = .ok (.invokevirtual 680, 3) := by decide +kernel
theorem dX12_begins_21 : decode cX12_begins 21 = .ok (.invokevirtual 665, 3) := by decide +kernel
theorem dX12_begins_24 : decode cX12_begins 24 = .ok (.aload_n 0, 1) := by decide +kernel
theorem dX12_begins_25 : decode cX12_begins 25 = .ok (.iload_n 1, 1) := by decide +kernel
theorem dX12_begins_26 : decode cX12_begins 26 = .ok (.bipush 64, 2) := by decide +kernel
theorem dX12_begins_28 : decode cX12_begins 28 = .ok (.iadd, 1) := by decide +kernel
theorem dX12_begins_29 : decode cX12_begins 29 = .ok (.invokevirtual 647, 3) := by decide +kernel
theorem dX12_begins_32 : decode cX12_begins 32 = .ok (.goto 8, 3) := by decide +kernel
theorem dX12_begins_35 : decode cX12_begins 35 = .ok (.aload_n 0, 1) := by decide +kernel
theorem dX12_begins_36 : decode cX12_begins 36 = .ok (.iload_n 1, 1) := by decide +kernel
theorem dX12_begins_37 : decode cX12_begins 37 = .ok (.invokevirtual 647, 3) := by decide +kernel
theorem dX12_begins_40 : decode cX12_begins 40 = .ok (.return_, 1) := by decide +kernel
theorem dX12_writeSpine_0 : decode cX12_writeSpine 0 = .ok (.aload_n 0, 1) := by decide +kernel
theorem dX12_writeSpine_1 : decode cX12_writeSpine 1 = .ok (.getfield 127, 3) := by decide +kernel
theorem dX12_writeSpine_4 : decode cX12_writeSpine 4 = .ok (.iload_n 1, 1) := by decide +kernel
theorem dX12_writeSpine_5 : decode cX12_writeSpine 5 = .ok (.iaload, 1) := by decide +kernel
theorem dX12_writeSpine_6 : decode cX12_writeSpine 6 = .ok (.istore_n 2, 1) := by decide +kernel
theorem dX12_writeSpine_7 : decode cX12_writeSpine 7 = .ok (.iload_n 2, 1) := by decide +kernel
theorem dX12_writeSpine_8 : decode cX12_writeSpine 8 = .ok (.iconst 5, 1) := by decide +kernel
theorem dX12_writeSpine_9 : decode cX12_writeSpine 9 = .ok (.if_icmp .eq 9, 3) := by decide +kernel
theorem dX12_writeSpine_12 : decode cX12_writeSpine 12 = .ok (.iload_n 2, 1) := by decide +kernel
theorem dX12_writeSpine_13 : decode cX12_writeSpine 13 = .ok (.bipush 6, 2) := by decide +kernel
theorem dX12_writeSpine_15 : decode cX12_writeSpine 15 = .ok (.if_icmp .ne 17, 3) := by decide +kernel
theorem dX12_writeSpine_18 : decode cX12_writeSpine 18 = .ok (.aload_n 0, 1) := by decide +kernel
theorem dX12_writeSpine_19 : decode cX12_writeSpine 19 = .ok (.iload_n 2, 1) := by decide +kernel
theorem dX12_writeSpine_20 : decode cX12_writeSpine 20 = .ok (.aload_n 0, 1) := by decide +kernel
theorem dX12_writeSpine_21 : decode cX12_writeSpine 21 = .ok (.getfield 133, 3) := by decide +kernel
theorem dX12_writeSpine_24 : decode cX12_writeSpine 24 = .ok (.iload_n 1, 1) := by decide +kernel
theorem dX12_writeSpine_25 : decode cX12_writeSpine 25 = .ok (.iaload, 1) := by decide +kernel
theorem dX12_writeSpine_26 : decode cX12_writeSpine 26 = .ok (.invokevirtual 665, 3) := by decide +kernel
theorem dX12_writeSpine_29 : decode cX12_writeSpine 29 = .ok (.goto 76, 3) := by decide +kernel
theorem dX12_writeSpine_32 : decode cX12_writeSpine 32 = .ok (.iload_n 2, 1) := by decide +kernel
theorem dX12_writeSpine_33 : decode cX12_writeSpine 33 = .ok (.bipush 7, 2) := by decide +kernel
theorem dX12_writeSpine_35 : decode cX12_writeSpine 35 = .ok (.if_icmp .ne 36, 3) := by decide +kernel
theorem dX12_writeSpine_38 : decode cX12_writeSpine 38 = .ok (.aload_n 0, 1) := by decide +kernel
theorem dX12_writeSpine_39 : decode cX12_writeSpine 39 = .ok (.iload_n 2, 1) := by decide +kernel
theorem dX12_writeSpine_40 : decode cX12_writeSpine 40 = .ok (.aload_n 0, 1) := by decide +kernel
theorem dX12_writeSpine_41 : decode cX12_writeSpine 41 = .ok (.iload_n 1, 1) := by decide +kernel
theorem dX12_writeSpine_42 : decode cX12_writeSpine 42 = .ok (.invokevirtual 635, 3) := by decide +kernel
theorem dX12_writeSpine_45 : decode cX12_writeSpine 45 = .ok (.invokevirtual 683, 3) := by decide +kernel
theorem dX12_writeSpine_48 : decode cX12_writeSpine 48 = .ok (.aload_n 0, 1) := by decide +kernel
theorem dX12_writeSpine_49 : decode cX12_writeSpine 49 = .ok (.aload_n 0, 1) := by decide +kernel
theorem dX12_writeSpine_50 : decode cX12_writeSpine 50 = .ok (.getfield 133, 3) := by decide +kernel
theorem dX12_writeSpine_53 : decode cX12_writeSpine 53 = .ok (.iload_n 1, 1) := by decide +kernel
theorem dX12_writeSpine_54 : decode cX12_writeSpine 54 = .ok (.iaload, 1) := by decide +kernel
theorem dX12_writeSpine_55 : decode cX12_writeSpine 55 = .ok (.invokevirtual 650, 3) := by decide +kernel
theorem dX12_writeSpine_58 : decode cX12_writeSpine 58 = .ok (.aload_n 0, 1) := by decide +kernel
theorem dX12_writeSpine_59 : decode cX12_writeSpine 59 = .ok (.aload_n 0, 1) := by decide +kernel
theorem dX12_writeSpine_60 : decode cX12_writeSpine 60 = .ok (.getfield 136, 3) := by decide +kernel
theorem dX12_writeSpine_63 : decode cX12_writeSpine 63 = .ok (.iload_n 1, 1) := by decide +kernel
theorem dX12_writeSpine_64 : decode cX12_writeSpine 64 = .ok (.iaload, 1) := by decide +kernel
theorem dX12_writeSpine_65 : decode cX12_writeSpine 65 = .ok (.invokevirtual 650, 3) := by decide +kernel
theorem dX12_writeSpine_68 : decode cX12_writeSpine 68 = .ok (.goto 37, 3) := by decide +kernel
theorem dX12_writeSpine_71 : decode cX12_writeSpine 71 = .ok (.iload_n 2, 1) := by decide +kernel
theorem dX12_writeSpine_72 : decode cX12_writeSpine 72 = .ok (.bipush 8, 2) := by decide +kernel
theorem dX12_writeSpine_74 : decode cX12_writeSpine 74 = .ok (.if_icmp .ne 26, 3) := by decide +kernel
theorem dX12_writeSpine_77 : decode cX12_writeSpine 77 = .ok (.aload_n 0, 1) := by decide +kernel
theorem dX12_writeSpine_78 : decode cX12_writeSpine 78 = .ok (.iload_n 2, 1) := by decide +kernel
theorem dX12_writeSpine_79 : decode cX12_writeSpine 79 = .ok (.aload_n 0, 1) := by decide +kernel
theorem dX12_writeSpine_80 : decode cX12_writeSpine 80 = .ok (.iload_n 1, 1) := by decide +kernel
theorem dX12_writeSpine_81 : decode cX12_writeSpine 81 = .ok (.invokevirtual 635, 3) := by decide +kernel
theorem dX12_writeSpine_84 : decode cX12_writeSpine 84 = .ok (.invokevirtual 683, 3) := by decide +kernel
theorem dX12_writeSpine_87 : decode cX12_writeSpine 87 = .ok (.aload_n 0, 1) := by decide +kernel
theorem dX12_writeSpine_88 : decode cX12_writeSpine 88 = .ok (.aload_n 0, 1) := by decide +kernel
theorem dX12_writeSpine_89 : decode cX12_writeSpine 89 = .ok (.getfield 133, 3) := by decide +kernel
theorem dX12_writeSpine_92 : decode cX12_writeSpine 92 = .ok (.iload_n 1, 1) := by decide +kernel
theorem dX12_writeSpine_93 : decode cX12_writeSpine 93 = .ok (.iaload, 1) := by decide +kernel
theorem dX12_writeSpine_94 : decode cX12_writeSpine 94 = .ok (.invokevirtual 650, 3) := by decide +kernel
theorem dX12_writeSpine_97 : decode cX12_writeSpine 97 = .ok (.goto 8, 3) := by decide +kernel
theorem dX12_writeSpine_100 : decode cX12_writeSpine 100 = .ok (.aload_n 0, 1) := by decide +kernel
theorem dX12_writeSpine_101 : decode cX12_writeSpine 101 = .ok (.iload_n 2, 1) := by decide +kernel
theorem dX12_writeSpine_102 : decode cX12_writeSpine 102 = .ok (.invokevirtual 647, 3) := by decide +kernel
theorem dX12_writeSpine_105 : decode cX12_writeSpine 105 = .ok (.return_, 1) := by decide +kernel
theorem dX12_writeUnit_0 : decode cX12_writeUnit 0 = .ok (.iconst 0, 1) := by decide +kernel
theorem dX12_writeUnit_1 : decode cX12_writeUnit 1 = .ok (.istore_n 3, 1) := by decide +kernel
theorem dX12_writeUnit_2 : decode cX12_writeUnit 2 = .ok (.iload_n 3, 1) := by decide +kernel
theorem dX12_writeUnit_3 : decode cX12_writeUnit 3 = .ok (.aload_n 0, 1) := by decide +kernel
theorem dX12_writeUnit_4 : decode cX12_writeUnit 4 = .ok (.getfield 87, 3) := by decide +kernel
theorem dX12_writeUnit_7 : decode cX12_writeUnit 7 = .ok (.iload_n 2, 1) := by decide +kernel
theorem dX12_writeUnit_8 : decode cX12_writeUnit 8 = .ok (.iaload, 1) := by decide +kernel
theorem dX12_writeUnit_9 : decode cX12_writeUnit 9 = .ok (.if_icmp .ge 33, 3) := by decide +kernel
theorem dX12_writeUnit_12 : decode cX12_writeUnit 12 = .ok (.aload_n 0, 1) := by decide +kernel
theorem dX12_writeUnit_13 : decode cX12_writeUnit 13 = .ok (.iconst 2, 1) := by decide +kernel
theorem dX12_writeUnit_14 : decode cX12_writeUnit 14 = .ok (.aload_n 0, 1) := by decide +kernel
theorem dX12_writeUnit_15 : decode cX12_writeUnit 15 = .ok (.aload_n 0, 1) := by decide +kernel
theorem dX12_writeUnit_16 : decode cX12_writeUnit 16 = .ok (.getfield 653, 3) := by decide +kernel
theorem dX12_writeUnit_19 : decode cX12_writeUnit 19 = .ok (.aload_n 0, 1) := by decide +kernel
theorem dX12_writeUnit_20 : decode cX12_writeUnit 20 = .ok (.getfield 90, 3) := by decide +kernel
theorem dX12_writeUnit_23 : decode cX12_writeUnit 23 = .ok (.bipush 16, 2) := by decide +kernel
theorem dX12_writeUnit_25 : decode cX12_writeUnit 25 = .ok (.iload_n 2, 1) := by decide +kernel
theorem dX12_writeUnit_26 : decode cX12_writeUnit 26 = .ok (.imul, 1) := by decide +kernel
theorem dX12_writeUnit_27 : decode cX12_writeUnit 27 = .ok (.iload_n 3, 1) := by decide +kernel
theorem dX12_writeUnit_28 : decode cX12_writeUnit 28 = .ok (.iadd, 1) := by decide +kernel
theorem dX12_writeUnit_29 : decode cX12_writeUnit 29 = .ok (.iaload, 1) := by decide +kernel
theorem dX12_writeUnit_30 : decode cX12_writeUnit 30 = .ok (.invokevirtual 686, 3) := by decide +kernel
theorem dX12_writeUnit_33 : decode cX12_writeUnit 33 = .ok (.invokevirtual 665, 3) := by decide +kernel
theorem dX12_writeUnit_36 : decode cX12_writeUnit 36 = .ok (.iinc 3 1, 3) := by decide +kernel
theorem dX12_writeUnit_39 : decode cX12_writeUnit 39 = .ok (.goto (-37), 3) := by decide +kernel
theorem dX12_writeUnit_42 : decode cX12_writeUnit 42 = .ok (.aload_n 0, 1) := by decide +kernel
theorem dX12_writeUnit_43 : decode cX12_writeUnit 43 = .ok (.iload_n 1, 1) := by decide +kernel
theorem dX12_writeUnit_44 : decode cX12_writeUnit 44 = .ok (.iload_n 1, 1) := by decide +kernel
theorem dX12_writeUnit_45 : decode cX12_writeUnit 45 = .ok (.bipush 10, 2) := by decide +kernel
theorem dX12_writeUnit_47 : decode cX12_writeUnit 47 = .ok (.if_icmp .ne 26, 3) := by decide +kernel
theorem dX12_writeUnit_50 : decode cX12_writeUnit 50 = .ok (.aload_n 0, 1) := by decide +kernel
theorem dX12_writeUnit_51 : decode cX12_writeUnit 51 = .ok (.getfield 63, 3) := by decide +kernel
theorem dX12_writeUnit_54 : decode cX12_writeUnit 54 = .ok (.iload_n 2, 1) := by decide +kernel
theorem dX12_writeUnit_55 : decode cX12_writeUnit 55 = .ok (.iaload, 1) := by decide +kernel
theorem dX12_writeUnit_56 : decode cX12_writeUnit 56 = .ok (.iconst 3, 1) := by decide +kernel
theorem dX12_writeUnit_57 : decode cX12_writeUnit 57 = .ok (.if_icmp .ne 16, 3) := by decide +kernel
theorem dX12_writeUnit_60 : decode cX12_writeUnit 60 = .ok (.aload_n 0, 1) := by decide +kernel
theorem dX12_writeUnit_61 : decode cX12_writeUnit 61 = .ok (.getfield 96, 3) := by decide +kernel
theorem dX12_writeUnit_64 : decode cX12_writeUnit 64 = .ok (.iload_n 2, 1) := by decide +kernel
theorem dX12_writeUnit_65 : decode cX12_writeUnit 65 = .ok (.baload, 1) := by decide +kernel
theorem dX12_writeUnit_66 : decode cX12_writeUnit 66 = .ok (.ifCond .eq 7, 3) := by decide +kernel
theorem dX12_writeUnit_69 : decode cX12_writeUnit 69 = .ok (.iconst 1, 1) := by decide +kernel
theorem dX12_writeUnit_70 : decode cX12_writeUnit 70 = .ok (.goto 4, 3) := by decide +kernel
theorem dX12_writeUnit_73 : decode cX12_writeUnit 73 = .ok (.iconst 0, 1) := by decide +kernel
theorem dX12_writeUnit_74 : decode cX12_writeUnit 74 = .ok (.invokevirtual 683, 3) := by decide +kernel
theorem dX12_writeUnit_77 : decode cX12_writeUnit 77 = .ok (.aload_n 0, 1) := by decide +kernel
theorem dX12_writeUnit_78 : decode cX12_writeUnit 78 = .ok (.iload_n 2, 1) := by decide +kernel
theorem dX12_writeUnit_79 : decode cX12_writeUnit 79 = .ok (.invokevirtual 650, 3) := by decide +kernel
theorem dX12_writeUnit_82 : decode cX12_writeUnit 82 = .ok (.return_, 1) := by decide +kernel
theorem dX12_writeOne_0 : decode cX12_writeOne 0 = .ok (.aload_n 0, 1) := by decide +kernel
theorem dX12_writeOne_1 : decode cX12_writeOne 1 = .ok (.getfield 139, 3) := by decide +kernel
theorem dX12_writeOne_4 : decode cX12_writeOne 4 = .ok (.iload_n 1, 1) := by decide +kernel
theorem dX12_writeOne_5 : decode cX12_writeOne 5 = .ok (.iaload, 1) := by decide +kernel
theorem dX12_writeOne_6 : decode cX12_writeOne 6 = .ok (.istore_n 2, 1) := by decide +kernel
theorem dX12_writeOne_7 : decode cX12_writeOne 7 = .ok (.aload_n 0, 1) := by decide +kernel
theorem dX12_writeOne_8 : decode cX12_writeOne 8 = .ok (.getfield 127, 3) := by decide +kernel
theorem dX12_writeOne_11 : decode cX12_writeOne 11 = .ok (.iload_n 1, 1) := by decide +kernel
theorem dX12_writeOne_12 : decode cX12_writeOne 12 = .ok (.iaload, 1) := by decide +kernel
theorem dX12_writeOne_13 : decode cX12_writeOne 13 = .ok (.tableswitch 438 0 41 #[183, 197, 205, 438, 227, 438, 438, 438, 438, 273, 288, 438, 438, 438, 438, 438, 438, 438, 438, 429, 438, 347, 347, 365, 347, 313, 313, 241, 438, 438, 438, 438, 438, 438, 438, 438, 438, 438, 438, 438, 384, 421], 183) := by decide +kernel
theorem dX12_writeOne_196 : decode cX12_writeOne 196 = .ok (.aload_n 0, 1) := by decide +kernel
theorem dX12_writeOne_197 : decode cX12_writeOne 197 = .ok (.iconst 0, 1) := by decide +kernel
theorem dX12_writeOne_198 : decode cX12_writeOne 198 = .ok (.aload_n 0, 1) := by decide +kernel
theorem dX12_writeOne_199 : decode cX12_writeOne 199 = .ok (.getfield 133, 3) := by decide +kernel
theorem dX12_writeOne_202 : decode cX12_writeOne 202 = .ok (.iload_n 1, 1) := by decide +kernel
theorem dX12_writeOne_203 : decode cX12_writeOne 203 = .ok (.iaload, 1) := by decide +kernel
theorem dX12_writeOne_204 : decode cX12_writeOne 204 = .ok (.invokevirtual 665, 3) := by decide +kernel
theorem dX12_writeOne_207 : decode cX12_writeOne 207 = .ok (.goto 277, 3) := by decide +kernel
theorem dX12_writeOne_210 : decode cX12_writeOne 210 = .ok (.aload_n 0, 1) := by decide +kernel
theorem dX12_writeOne_211 : decode cX12_writeOne 211 = .ok (.iconst 1, 1) := by decide +kernel
theorem dX12_writeOne_212 : decode cX12_writeOne 212 = .ok (.invokevirtual 647, 3) := by decide +kernel
theorem dX12_writeOne_215 : decode cX12_writeOne 215 = .ok (.goto 269, 3) := by decide +kernel
theorem dX12_writeOne_218 : decode cX12_writeOne 218 = .ok (.aload_n 0, 1) := by decide +kernel
theorem dX12_writeOne_219 : decode cX12_writeOne 219 = .ok (.iconst 2, 1) := by decide +kernel
theorem dX12_writeOne_220 : decode cX12_writeOne 220 = .ok (.aload_n 0, 1) := by decide +kernel
theorem dX12_writeOne_221 : decode cX12_writeOne 221 = .ok (.aload_n 0, 1) := by decide +kernel
theorem dX12_writeOne_222 : decode cX12_writeOne 222 = .ok (.getfield 653, 3) := by decide +kernel
theorem dX12_writeOne_225 : decode cX12_writeOne 225 = .ok (.aload_n 0, 1) := by decide +kernel
theorem dX12_writeOne_226 : decode cX12_writeOne 226 = .ok (.getfield 133, 3) := by decide +kernel
theorem dX12_writeOne_229 : decode cX12_writeOne 229 = .ok (.iload_n 1, 1) := by decide +kernel
theorem dX12_writeOne_230 : decode cX12_writeOne 230 = .ok (.iaload, 1) := by decide +kernel
theorem dX12_writeOne_231 : decode cX12_writeOne 231 = .ok (.invokevirtual 686, 3) := by decide +kernel
theorem dX12_writeOne_234 : decode cX12_writeOne 234 = .ok (.invokevirtual 665, 3) := by decide +kernel
theorem dX12_writeOne_237 : decode cX12_writeOne 237 = .ok (.goto 247, 3) := by decide +kernel
theorem dX12_writeOne_240 : decode cX12_writeOne 240 = .ok (.aload_n 0, 1) := by decide +kernel
theorem dX12_writeOne_241 : decode cX12_writeOne 241 = .ok (.iconst 4, 1) := by decide +kernel
theorem dX12_writeOne_242 : decode cX12_writeOne 242 = .ok (.aload_n 0, 1) := by decide +kernel
theorem dX12_writeOne_243 : decode cX12_writeOne 243 = .ok (.getfield 133, 3) := by decide +kernel
theorem dX12_writeOne_246 : decode cX12_writeOne 246 = .ok (.iload_n 1, 1) := by decide +kernel
theorem dX12_writeOne_247 : decode cX12_writeOne 247 = .ok (.iaload, 1) := by decide +kernel
theorem dX12_writeOne_248 : decode cX12_writeOne 248 = .ok (.invokevirtual 665, 3) := by decide +kernel
theorem dX12_writeOne_251 : decode cX12_writeOne 251 = .ok (.goto 233, 3) := by decide +kernel
theorem dX12_writeOne_254 : decode cX12_writeOne 254 = .ok (.aload_n 0, 1) := by decide +kernel
theorem dX12_writeOne_255 : decode cX12_writeOne 255 = .ok (.getfield 656, 3) := by decide +kernel
theorem dX12_writeOne_258 : decode cX12_writeOne 258 = .ok (.ifCond .eq 19, 3) := by decide +kernel
theorem dX12_writeOne_261 : decode cX12_writeOne 261 = .ok (.aload_n 0, 1) := by decide +kernel
theorem dX12_writeOne_262 : decode cX12_writeOne 262 = .ok (.iconst 2, 1) := by decide +kernel
theorem dX12_writeOne_263 : decode cX12_writeOne 263 = .ok (.aload_n 0, 1) := by decide +kernel
theorem dX12_writeOne_264 : decode cX12_writeOne 264 = .ok (.aload_n 0, 1) := by decide +kernel
theorem dX12_writeOne_265 : decode cX12_writeOne 265 = .ok (.getfield 653, 3) := by decide +kernel
theorem dX12_writeOne_268 : decode cX12_writeOne 268 = .ok (.invokevirtual 680, 3) := by decide +kernel
theorem dX12_writeOne_271 : decode cX12_writeOne 271 = .ok (.invokevirtual 665, 3) := by decide +kernel
theorem dX12_writeOne_274 : decode cX12_writeOne 274 = .ok (.goto 210, 3) := by decide +kernel
theorem dX12_writeOne_277 : decode cX12_writeOne 277 = .ok (.aload_n 0, 1) := by decide +kernel
theorem dX12_writeOne_278 : decode cX12_writeOne 278 = .ok (.bipush 27, 2) := by decide +kernel
theorem dX12_writeOne_280 : decode cX12_writeOne 280 = .ok (.invokevirtual 647, 3) := by decide +kernel
theorem dX12_writeOne_283 : decode cX12_writeOne 283 = .ok (.goto 201, 3) := by decide +kernel
theorem dX12_writeOne_286 : decode cX12_writeOne 286 = .ok (.aload_n 0, 1) := by decide +kernel
theorem dX12_writeOne_287 : decode cX12_writeOne 287 = .ok (.bipush 9, 2) := by decide +kernel
theorem dX12_writeOne_289 : decode cX12_writeOne 289 = .ok (.aload_n 0, 1) := by decide +kernel
theorem dX12_writeOne_290 : decode cX12_writeOne 290 = .ok (.getfield 133, 3) := by decide +kernel
theorem dX12_writeOne_293 : decode cX12_writeOne 293 = .ok (.iload_n 1, 1) := by decide +kernel
theorem dX12_writeOne_294 : decode cX12_writeOne 294 = .ok (.iaload, 1) := by decide +kernel
theorem dX12_writeOne_295 : decode cX12_writeOne 295 = .ok (.invokevirtual 689, 3) := by decide +kernel
theorem dX12_writeOne_298 : decode cX12_writeOne 298 = .ok (.goto 186, 3) := by decide +kernel
theorem dX12_writeOne_301 : decode cX12_writeOne 301 = .ok (.iload_n 2, 1) := by decide +kernel
theorem dX12_writeOne_302 : decode cX12_writeOne 302 = .ok (.iconst (-1), 1) := by decide +kernel
theorem dX12_writeOne_303 : decode cX12_writeOne 303 = .ok (.if_icmp .eq 8, 3) := by decide +kernel
theorem dX12_writeOne_306 : decode cX12_writeOne 306 = .ok (.aload_n 0, 1) := by decide +kernel
theorem dX12_writeOne_307 : decode cX12_writeOne 307 = .ok (.iload_n 2, 1) := by decide +kernel
theorem dX12_writeOne_308 : decode cX12_writeOne 308 = .ok (.invokevirtual 662, 3) := by decide +kernel
theorem dX12_writeOne_311 : decode cX12_writeOne 311 = .ok (.aload_n 0, 1) := by decide +kernel
theorem dX12_writeOne_312 : decode cX12_writeOne 312 = .ok (.bipush 10, 2) := by decide +kernel
theorem dX12_writeOne_314 : decode cX12_writeOne 314 = .ok (.aload_n 0, 1) := by decide +kernel
theorem dX12_writeOne_315 : decode cX12_writeOne 315 = .ok (.getfield 133, 3) := by decide +kernel
theorem dX12_writeOne_318 : decode cX12_writeOne 318 = .ok (.iload_n 1, 1) := by decide +kernel
theorem dX12_writeOne_319 : decode cX12_writeOne 319 = .ok (.iaload, 1) := by decide +kernel
theorem dX12_writeOne_320 : decode cX12_writeOne 320 = .ok (.invokevirtual 689, 3) := by decide +kernel
theorem dX12_writeOne_323 : decode cX12_writeOne 323 = .ok (.goto 161, 3) := by decide +kernel
theorem dX12_writeOne_326 : decode cX12_writeOne 326 = .ok (.iload_n 2, 1) := by decide +kernel
theorem dX12_writeOne_327 : decode cX12_writeOne 327 = .ok (.iconst (-1), 1) := by decide +kernel
theorem dX12_writeOne_328 : decode cX12_writeOne 328 = .ok (.if_icmp .eq 8, 3) := by decide +kernel
theorem dX12_writeOne_331 : decode cX12_writeOne 331 = .ok (.aload_n 0, 1) := by decide +kernel
theorem dX12_writeOne_332 : decode cX12_writeOne 332 = .ok (.iload_n 2, 1) := by decide +kernel
theorem dX12_writeOne_333 : decode cX12_writeOne 333 = .ok (.invokevirtual 662, 3) := by decide +kernel
theorem dX12_writeOne_336 : decode cX12_writeOne 336 = .ok (.aload_n 0, 1) := by decide +kernel
theorem dX12_writeOne_337 : decode cX12_writeOne 337 = .ok (.aload_n 0, 1) := by decide +kernel
theorem dX12_writeOne_338 : decode cX12_writeOne 338 = .ok (.getfield 127, 3) := by decide +kernel
theorem dX12_writeOne_341 : decode cX12_writeOne 341 = .ok (.iload_n 1, 1) := by decide +kernel
theorem dX12_writeOne_342 : decode cX12_writeOne 342 = .ok (.iaload, 1) := by decide +kernel
theorem dX12_writeOne_343 : decode cX12_writeOne 343 = .ok (.iconst 1, 1) := by decide +kernel
theorem dX12_writeOne_344 : decode cX12_writeOne 344 = .ok (.invokevirtual 683, 3) := by decide +kernel
theorem dX12_writeOne_347 : decode cX12_writeOne 347 = .ok (.aload_n 0, 1) := by decide +kernel
theorem dX12_writeOne_348 : decode cX12_writeOne 348 = .ok (.aload_n 0, 1) := by decide +kernel
theorem dX12_writeOne_349 : decode cX12_writeOne 349 = .ok (.getfield 133, 3) := by decide +kernel
theorem dX12_writeOne_352 : decode cX12_writeOne 352 = .ok (.iload_n 1, 1) := by decide +kernel
theorem dX12_writeOne_353 : decode cX12_writeOne 353 = .ok (.iaload, 1) := by decide +kernel
theorem dX12_writeOne_354 : decode cX12_writeOne 354 = .ok (.invokevirtual 650, 3) := by decide +kernel
theorem dX12_writeOne_357 : decode cX12_writeOne 357 = .ok (.goto 127, 3) := by decide +kernel
theorem dX12_writeOne_360 : decode cX12_writeOne 360 = .ok (.aload_n 0, 1) := by decide +kernel
theorem dX12_writeOne_361 : decode cX12_writeOne 361 = .ok (.iload_n 2, 1) := by decide +kernel
theorem dX12_writeOne_362 : decode cX12_writeOne 362 = .ok (.invokevirtual 662, 3) := by decide +kernel
theorem dX12_writeOne_365 : decode cX12_writeOne 365 = .ok (.aload_n 0, 1) := by decide +kernel
theorem dX12_writeOne_366 : decode cX12_writeOne 366 = .ok (.aload_n 0, 1) := by decide +kernel
theorem dX12_writeOne_367 : decode cX12_writeOne 367 = .ok (.getfield 127, 3) := by decide +kernel
theorem dX12_writeOne_370 : decode cX12_writeOne 370 = .ok (.iload_n 1, 1) := by decide +kernel
theorem dX12_writeOne_371 : decode cX12_writeOne 371 = .ok (.iaload, 1) := by decide +kernel
theorem dX12_writeOne_372 : decode cX12_writeOne 372 = .ok (.invokevirtual 647, 3) := by decide +kernel
theorem dX12_writeOne_375 : decode cX12_writeOne 375 = .ok (.goto 109, 3) := by decide +kernel
theorem dX12_writeOne_378 : decode cX12_writeOne 378 = .ok (.aload_n 0, 1) := by decide +kernel
theorem dX12_writeOne_379 : decode cX12_writeOne 379 = .ok (.iload_n 2, 1) := by decide +kernel
theorem dX12_writeOne_380 : decode cX12_writeOne 380 = .ok (.invokevirtual 662, 3) := by decide +kernel
theorem dX12_writeOne_383 : decode cX12_writeOne 383 = .ok (.aload_n 0, 1) := by decide +kernel
theorem dX12_writeOne_384 : decode cX12_writeOne 384 = .ok (.bipush 23, 2) := by decide +kernel
theorem dX12_writeOne_386 : decode cX12_writeOne 386 = .ok (.aload_n 0, 1) := by decide +kernel
theorem dX12_writeOne_387 : decode cX12_writeOne 387 = .ok (.iload_n 1, 1) := by decide +kernel
theorem dX12_writeOne_388 : decode cX12_writeOne 388 = .ok (.invokevirtual 635, 3) := by decide +kernel
theorem dX12_writeOne_391 : decode cX12_writeOne 391 = .ok (.invokevirtual 683, 3) := by decide +kernel
theorem dX12_writeOne_394 : decode cX12_writeOne 394 = .ok (.goto 90, 3) := by decide +kernel
theorem dX12_writeOne_397 : decode cX12_writeOne 397 = .ok (.aload_n 0, 1) := by decide +kernel
theorem dX12_writeOne_398 : decode cX12_writeOne 398 = .ok (.iload_n 2, 1) := by decide +kernel
theorem dX12_writeOne_399 : decode cX12_writeOne 399 = .ok (.invokevirtual 662, 3) := by decide +kernel
theorem dX12_writeOne_402 : decode cX12_writeOne 402 = .ok (.aload_n 0, 1) := by decide +kernel
theorem dX12_writeOne_403 : decode cX12_writeOne 403 = .ok (.iconst 3, 1) := by decide +kernel
theorem dX12_writeOne_404 : decode cX12_writeOne 404 = .ok (.aload_n 0, 1) := by decide +kernel
theorem dX12_writeOne_405 : decode cX12_writeOne 405 = .ok (.aload_n 0, 1) := by decide +kernel
theorem dX12_writeOne_406 : decode cX12_writeOne 406 = .ok (.getfield 653, 3) := by decide +kernel
theorem dX12_writeOne_409 : decode cX12_writeOne 409 = .ok (.aload_n 0, 1) := by decide +kernel
theorem dX12_writeOne_410 : decode cX12_writeOne 410 = .ok (.getfield 133, 3) := by decide +kernel
theorem dX12_writeOne_413 : decode cX12_writeOne 413 = .ok (.iload_n 1, 1) := by decide +kernel
theorem dX12_writeOne_414 : decode cX12_writeOne 414 = .ok (.iaload, 1) := by decide +kernel
theorem dX12_writeOne_415 : decode cX12_writeOne 415 = .ok (.invokevirtual 686, 3) := by decide +kernel
theorem dX12_writeOne_418 : decode cX12_writeOne 418 = .ok (.invokevirtual 665, 3) := by decide +kernel
theorem dX12_writeOne_421 : decode cX12_writeOne 421 = .ok (.aload_n 0, 1) := by decide +kernel
theorem dX12_writeOne_422 : decode cX12_writeOne 422 = .ok (.aload_n 0, 1) := by decide +kernel
theorem dX12_writeOne_423 : decode cX12_writeOne 423 = .ok (.getfield 142, 3) := by decide +kernel
theorem dX12_writeOne_426 : decode cX12_writeOne 426 = .ok (.iload_n 2, 1) := by decide +kernel
theorem dX12_writeOne_427 : decode cX12_writeOne 427 = .ok (.iaload, 1) := by decide +kernel
theorem dX12_writeOne_428 : decode cX12_writeOne 428 = .ok (.invokevirtual 662, 3) := by decide +kernel
theorem dX12_writeOne_431 : decode cX12_writeOne 431 = .ok (.goto 53, 3) := by decide +kernel
theorem dX12_writeOne_434 : decode cX12_writeOne 434 = .ok (.aload_n 0, 1) := by decide +kernel
theorem dX12_writeOne_435 : decode cX12_writeOne 435 = .ok (.iload_n 2, 1) := by decide +kernel
theorem dX12_writeOne_436 : decode cX12_writeOne 436 = .ok (.invokevirtual 692, 3) := by decide +kernel
theorem dX12_writeOne_439 : decode cX12_writeOne 439 = .ok (.goto 45, 3) := by decide +kernel
theorem dX12_writeOne_442 : decode cX12_writeOne 442 = .ok (.aload_n 0, 1) := by decide +kernel
theorem dX12_writeOne_443 : decode cX12_writeOne 443 = .ok (.iload_n 1, 1) := by decide +kernel
theorem dX12_writeOne_444 : decode cX12_writeOne 444 = .ok (.iload_n 2, 1) := by decide +kernel
theorem dX12_writeOne_445 : decode cX12_writeOne 445 = .ok (.invokevirtual 695, 3) := by decide +kernel
theorem dX12_writeOne_448 : decode cX12_writeOne 448 = .ok (.goto 36, 3) := by decide +kernel
theorem dX12_writeOne_451 : decode cX12_writeOne 451 = .ok (.iload_n 2, 1) := by decide +kernel
theorem dX12_writeOne_452 : decode cX12_writeOne 452 = .ok (.istore_n 3, 1) := by decide +kernel
theorem dX12_writeOne_453 : decode cX12_writeOne 453 = .ok (.iload_n 3, 1) := by decide +kernel
theorem dX12_writeOne_454 : decode cX12_writeOne 454 = .ok (.iconst (-1), 1) := by decide +kernel
theorem dX12_writeOne_455 : decode cX12_writeOne 455 = .ok (.if_icmp .eq 29, 3) := by decide +kernel
theorem dX12_writeOne_458 : decode cX12_writeOne 458 = .ok (.iload_n 3, 1) := by decide +kernel
theorem dX12_writeOne_459 : decode cX12_writeOne 459 = .ok (.iload_n 2, 1) := by decide +kernel
theorem dX12_writeOne_460 : decode cX12_writeOne 460 = .ok (.if_icmp .eq 9, 3) := by decide +kernel
theorem dX12_writeOne_463 : decode cX12_writeOne 463 = .ok (.aload_n 0, 1) := by decide +kernel
theorem dX12_writeOne_464 : decode cX12_writeOne 464 = .ok (.bipush 16, 2) := by decide +kernel
theorem dX12_writeOne_466 : decode cX12_writeOne 466 = .ok (.invokevirtual 647, 3) := by decide +kernel
theorem dX12_writeOne_469 : decode cX12_writeOne 469 = .ok (.aload_n 0, 1) := by decide +kernel
theorem dX12_writeOne_470 : decode cX12_writeOne 470 = .ok (.iload_n 3, 1) := by decide +kernel
theorem dX12_writeOne_471 : decode cX12_writeOne 471 = .ok (.invokevirtual 662, 3) := by decide +kernel
theorem dX12_writeOne_474 : decode cX12_writeOne 474 = .ok (.aload_n 0, 1) := by decide +kernel
theorem dX12_writeOne_475 : decode cX12_writeOne 475 = .ok (.getfield 142, 3) := by decide +kernel
theorem dX12_writeOne_478 : decode cX12_writeOne 478 = .ok (.iload_n 3, 1) := by decide +kernel
theorem dX12_writeOne_479 : decode cX12_writeOne 479 = .ok (.iaload, 1) := by decide +kernel
theorem dX12_writeOne_480 : decode cX12_writeOne 480 = .ok (.istore_n 3, 1) := by decide +kernel
theorem dX12_writeOne_481 : decode cX12_writeOne 481 = .ok (.goto (-28), 3) := by decide +kernel
theorem dX12_writeOne_484 : decode cX12_writeOne 484 = .ok (.return_, 1) := by decide +kernel
theorem dX12_gap_0 : decode cX12_gap 0 = .ok (.aload_n 0, 1) := by decide +kernel
theorem dX12_gap_1 : decode cX12_gap 1 = .ok (.iload_n 1, 1) := by decide +kernel
theorem dX12_gap_2 : decode cX12_gap 2 = .ok (.iconst 0, 1) := by decide +kernel
theorem dX12_gap_3 : decode cX12_gap 3 = .ok (.invokevirtual 665, 3) := by decide +kernel
theorem dX12_gap_6 : decode cX12_gap 6 = .ok (.aload_n 0, 1) := by decide +kernel
theorem dX12_gap_7 : decode cX12_gap 7 = .ok (.getfield 644, 3) := by decide +kernel
theorem dX12_gap_10 : decode cX12_gap 10 = .ok (.iconst 2, 1) := by decide +kernel
theorem dX12_gap_11 : decode cX12_gap 11 = .ok (.isub, 1) := by decide +kernel
theorem dX12_gap_12 : decode cX12_gap 12 = .ok (.ireturn, 1) := by decide +kernel
theorem dX12_fill_0 : decode cX12_fill 0 = .ok (.aload_n 0, 1) := by decide +kernel
theorem dX12_fill_1 : decode cX12_fill 1 = .ok (.getfield 644, 3) := by decide +kernel
theorem dX12_fill_4 : decode cX12_fill 4 = .ok (.aload_n 0, 1) := by decide +kernel
theorem dX12_fill_5 : decode cX12_fill 5 = .ok (.invokevirtual 698, 3) := by decide +kernel
theorem dX12_fill_8 : decode cX12_fill 8 = .ok (.isub, 1) := by decide +kernel
theorem dX12_fill_9 : decode cX12_fill 9 = .ok (.istore_n 2, 1) := by decide +kernel
theorem dX12_fill_10 : decode cX12_fill 10 = .ok (.aload_n 0, 1) := by decide +kernel
theorem dX12_fill_11 : decode cX12_fill 11 = .ok (.getfield 149, 3) := by decide +kernel
theorem dX12_fill_14 : decode cX12_fill 14 = .ok (.iload_n 1, 1) := by decide +kernel
theorem dX12_fill_15 : decode cX12_fill 15 = .ok (.iload_n 2, 1) := by decide +kernel
theorem dX12_fill_16 : decode cX12_fill 16 = .ok (.bipush 8, 2) := by decide +kernel
theorem dX12_fill_18 : decode cX12_fill 18 = .ok (.ishr, 1) := by decide +kernel
theorem dX12_fill_19 : decode cX12_fill 19 = .ok (.i2b, 1) := by decide +kernel
theorem dX12_fill_20 : decode cX12_fill 20 = .ok (.bastore, 1) := by decide +kernel
theorem dX12_fill_21 : decode cX12_fill 21 = .ok (.aload_n 0, 1) := by decide +kernel
theorem dX12_fill_22 : decode cX12_fill 22 = .ok (.getfield 149, 3) := by decide +kernel
theorem dX12_fill_25 : decode cX12_fill 25 = .ok (.iload_n 1, 1) := by decide +kernel
theorem dX12_fill_26 : decode cX12_fill 26 = .ok (.iconst 1, 1) := by decide +kernel
theorem dX12_fill_27 : decode cX12_fill 27 = .ok (.iadd, 1) := by decide +kernel
theorem dX12_fill_28 : decode cX12_fill 28 = .ok (.iload_n 2, 1) := by decide +kernel
theorem dX12_fill_29 : decode cX12_fill 29 = .ok (.i2b, 1) := by decide +kernel
theorem dX12_fill_30 : decode cX12_fill 30 = .ok (.bastore, 1) := by decide +kernel
theorem dX12_fill_31 : decode cX12_fill 31 = .ok (.return_, 1) := by decide +kernel
theorem dX12_writeIf_0 : decode cX12_writeIf 0 = .ok (.aload_n 0, 1) := by decide +kernel
theorem dX12_writeIf_1 : decode cX12_writeIf 1 = .ok (.iload_n 1, 1) := by decide +kernel
theorem dX12_writeIf_2 : decode cX12_writeIf 2 = .ok (.invokevirtual 662, 3) := by decide +kernel
theorem dX12_writeIf_5 : decode cX12_writeIf 5 = .ok (.aload_n 0, 1) := by decide +kernel
theorem dX12_writeIf_6 : decode cX12_writeIf 6 = .ok (.bipush 18, 2) := by decide +kernel
theorem dX12_writeIf_8 : decode cX12_writeIf 8 = .ok (.invokevirtual 701, 3) := by decide +kernel
theorem dX12_writeIf_11 : decode cX12_writeIf 11 = .ok (.istore_n 2, 1) := by decide +kernel
theorem dX12_writeIf_12 : decode cX12_writeIf 12 = .ok (.aload_n 0, 1) := by decide +kernel
theorem dX12_writeIf_13 : decode cX12_writeIf 13 = .ok (.aload_n 0, 1) := by decide +kernel
theorem dX12_writeIf_14 : decode cX12_writeIf 14 = .ok (.getfield 142, 3) := by decide +kernel
theorem dX12_writeIf_17 : decode cX12_writeIf 17 = .ok (.iload_n 1, 1) := by decide +kernel
theorem dX12_writeIf_18 : decode cX12_writeIf 18 = .ok (.iaload, 1) := by decide +kernel
theorem dX12_writeIf_19 : decode cX12_writeIf 19 = .ok (.invokevirtual 662, 3) := by decide +kernel
theorem dX12_writeIf_22 : decode cX12_writeIf 22 = .ok (.aload_n 0, 1) := by decide +kernel
theorem dX12_writeIf_23 : decode cX12_writeIf 23 = .ok (.bipush 17, 2) := by decide +kernel
theorem dX12_writeIf_25 : decode cX12_writeIf 25 = .ok (.invokevirtual 701, 3) := by decide +kernel
theorem dX12_writeIf_28 : decode cX12_writeIf 28 = .ok (.istore_n 3, 1) := by decide +kernel
theorem dX12_writeIf_29 : decode cX12_writeIf 29 = .ok (.aload_n 0, 1) := by decide +kernel
theorem dX12_writeIf_30 : decode cX12_writeIf 30 = .ok (.iload_n 2, 1) := by decide +kernel
theorem dX12_writeIf_31 : decode cX12_writeIf 31 = .ok (.invokevirtual 704, 3) := by decide +kernel
theorem dX12_writeIf_34 : decode cX12_writeIf 34 = .ok (.aload_n 0, 1) := by decide +kernel
theorem dX12_writeIf_35 : decode cX12_writeIf 35 = .ok (.aload_n 0, 1) := by decide +kernel
theorem dX12_writeIf_36 : decode cX12_writeIf 36 = .ok (.getfield 142, 3) := by decide +kernel
theorem dX12_writeIf_39 : decode cX12_writeIf 39 = .ok (.aload_n 0, 1) := by decide +kernel
theorem dX12_writeIf_40 : decode cX12_writeIf 40 = .ok (.getfield 142, 3) := by decide +kernel
theorem dX12_writeIf_43 : decode cX12_writeIf 43 = .ok (.iload_n 1, 1) := by decide +kernel
theorem dX12_writeIf_44 : decode cX12_writeIf 44 = .ok (.iaload, 1) := by decide +kernel
theorem dX12_writeIf_45 : decode cX12_writeIf 45 = .ok (.iaload, 1) := by decide +kernel
theorem dX12_writeIf_46 : decode cX12_writeIf 46 = .ok (.invokevirtual 662, 3) := by decide +kernel
theorem dX12_writeIf_49 : decode cX12_writeIf 49 = .ok (.aload_n 0, 1) := by decide +kernel
theorem dX12_writeIf_50 : decode cX12_writeIf 50 = .ok (.iload_n 3, 1) := by decide +kernel
theorem dX12_writeIf_51 : decode cX12_writeIf 51 = .ok (.invokevirtual 704, 3) := by decide +kernel
theorem dX12_writeIf_54 : decode cX12_writeIf 54 = .ok (.return_, 1) := by decide +kernel
