theorem dX8_findMay_71 : decode cX8_findMay 71 = .ok (.iconst 0, 1) := by decide +kernel
theorem dX8_findMay_72 : decode cX8_findMay 72 = .ok (.istore_n 2, 1) := by decide +kernel
theorem dX8_findMay_73 : decode cX8_findMay 73 = .ok (.aload_n 0, 1) := by decide +kernel
theorem dX8_findMay_74 : decode cX8_findMay 74 = .ok (.getfield 23, 3) := by decide +kernel
theorem dX8_findMay_77 : decode cX8_findMay 77 = .ok (.ifCond .eq 60, 3) := by decide +kernel
theorem dX8_findMay_80 : decode cX8_findMay 80 = .ok (.iload_n 2, 1) := by decide +kernel
theorem dX8_findMay_81 : decode cX8_findMay 81 = .ok (.bipush 122, 2) := by decide +kernel
theorem dX8_findMay_83 : decode cX8_findMay 83 = .ok (.if_icmp .gt 54, 3) := by decide +kernel
theorem dX8_findMay_86 : decode cX8_findMay 86 = .ok (.aload_n 0, 1) := by decide +kernel
theorem dX8_findMay_87 : decode cX8_findMay 87 = .ok (.iconst 0, 1) := by decide +kernel
theorem dX8_findMay_88 : decode cX8_findMay 88 = .ok (.putfield 23, 3) := by decide +kernel
theorem dX8_findMay_91 : decode cX8_findMay 91 = .ok (.iconst 0, 1) := by decide +kernel
theorem dX8_findMay_92 : decode cX8_findMay 92 = .ok (.istore_n 3, 1) := by decide +kernel
theorem dX8_findMay_93 : decode cX8_findMay 93 = .ok (.iload_n 3, 1) := by decide +kernel
theorem dX8_findMay_94 : decode cX8_findMay 94 = .ok (.aload_n 0, 1) := by decide +kernel
theorem dX8_findMay_95 : decode cX8_findMay 95 = .ok (.getfield 9, 3) := by decide +kernel
theorem dX8_findMay_98 : decode cX8_findMay 98 = .ok (.getfield 26, 3) := by decide +kernel
theorem dX8_findMay_101 : decode cX8_findMay 101 = .ok (.if_icmp .ge 30, 3) := by decide +kernel
theorem dX8_findMay_104 : decode cX8_findMay 104 = .ok (.aload_n 0, 1) := by decide +kernel
theorem dX8_findMay_105 : decode cX8_findMay 105 = .ok (.iload_n 3, 1) := by decide +kernel
theorem dX8_findMay_106 : decode cX8_findMay 106 = .ok (.invokevirtual 93, 3) := by decide +kernel
theorem dX8_findMay_109 : decode cX8_findMay 109 = .ok (.ifCond .eq 16, 3) := by decide +kernel
theorem dX8_findMay_112 : decode cX8_findMay 112 = .ok (.aload_n 0, 1) := by decide +kernel
theorem dX8_findMay_113 : decode cX8_findMay 113 = .ok (.aload_n 0, 1) := by decide +kernel
theorem dX8_findMay_114 : decode cX8_findMay 114 = .ok (.getfield 9, 3) := by decide +kernel
theorem dX8_findMay_117 : decode cX8_findMay 117 = .ok (.iload_n 3, 1) := by decide +kernel
theorem dX8_findMay_118 : decode cX8_findMay 118 = .ok (.invokevirtual 32, 3) := by decide +kernel
theorem dX8_findMay_121 : decode cX8_findMay 121 = .ok (.iload_n 1, 1) := by decide +kernel
theorem dX8_findMay_122 : decode cX8_findMay 122 = .ok (.invokevirtual 96, 3) := by decide +kernel
theorem dX8_findMay_125 : decode cX8_findMay 125 = .ok (.iinc 3 1, 3) := by decide +kernel
theorem dX8_findMay_128 : decode cX8_findMay 128 = .ok (.goto (-35), 3) := by decide +kernel
theorem dX8_findMay_131 : decode cX8_findMay 131 = .ok (.iinc 2 1, 3) := by decide +kernel
theorem dX8_findMay_134 : decode cX8_findMay 134 = .ok (.goto (-61), 3) := by decide +kernel
theorem dX8_findMay_137 : decode cX8_findMay 137 = .ok (.aload_n 0, 1) := by decide +kernel
theorem dX8_findMay_138 : decode cX8_findMay 138 = .ok (.iconst 1, 1) := by decide +kernel
theorem dX8_findMay_139 : decode cX8_findMay 139 = .ok (.putfield 19, 3) := by decide +kernel
theorem dX8_findMay_142 : decode cX8_findMay 142 = .ok (.return_, 1) := by decide +kernel
theorem dX8_spread_0 : decode cX8_spread 0 = .ok (.aload_n 0, 1) := by decide +kernel
theorem dX8_spread_1 : decode cX8_spread 1 = .ok (.aload_n 1, 1) := by decide +kernel
theorem dX8_spread_2 : decode cX8_spread 2 = .ok (.getfield 99, 3) := by decide +kernel
theorem dX8_spread_5 : decode cX8_spread 5 = .ok (.invokevirtual 93, 3) := by decide +kernel
theorem dX8_spread_8 : decode cX8_spread 8 = .ok (.istore_n 3, 1) := by decide +kernel
theorem dX8_spread_9 : decode cX8_spread 9 = .ok (.iconst 0, 1) := by decide +kernel
theorem dX8_spread_10 : decode cX8_spread 10 = .ok (.istore 4, 2) := by decide +kernel
theorem dX8_spread_12 : decode cX8_spread 12 = .ok (.iload 4, 2) := by decide +kernel
theorem dX8_spread_14 : decode cX8_spread 14 = .ok (.aload_n 1, 1) := by decide +kernel
theorem dX8_spread_15 : decode cX8_spread 15 = .ok (.invokevirtual 52, 3) := by decide +kernel
theorem dX8_spread_18 : decode cX8_spread 18 = .ok (.if_icmp .ge 122, 3) := by decide +kernel
theorem dX8_spread_21 : decode cX8_spread 21 = .ok (.aload_n 1, 1) := by decide +kernel
theorem dX8_spread_22 : decode cX8_spread 22 = .ok (.iload 4, 2) := by decide +kernel
theorem dX8_spread_24 : decode cX8_spread 24 = .ok (.invokevirtual 56, 3) := by decide +kernel
theorem dX8_spread_27 : decode cX8_spread 27 = .ok (.istore 5, 2) := by decide +kernel
theorem dX8_spread_29 : decode cX8_spread 29 = .ok (.iload 5, 2) := by decide +kernel
theorem dX8_spread_31 : decode cX8_spread 31 = .ok (.bipush 27, 2) := by decide +kernel
theorem dX8_spread_33 : decode cX8_spread 33 = .ok (.if_icmp .ne 45, 3) := by decide +kernel
theorem dX8_spread_36 : decode cX8_spread 36 = .ok (.aload_n 0, 1) := by decide +kernel
theorem dX8_spread_37 : decode cX8_spread 37 = .ok (.aload_n 0, 1) := by decide +kernel
theorem dX8_spread_38 : decode cX8_spread 38 = .ok (.getfield 23, 3) := by decide +kernel
theorem dX8_spread_41 : decode cX8_spread 41 = .ok (.ifCond .ne 16, 3) := by decide +kernel
theorem dX8_spread_44 : decode cX8_spread 44 = .ok (.aload_n 0, 1) := by decide +kernel
theorem dX8_spread_45 : decode cX8_spread 45 = .ok (.getfield 76, 3) := by decide +kernel
theorem dX8_spread_48 : decode cX8_spread 48 = .ok (.iload_n 3, 1) := by decide +kernel
theorem dX8_spread_49 : decode cX8_spread 49 = .ok (.ior, 1) := by decide +kernel
theorem dX8_spread_50 : decode cX8_spread 50 = .ok (.aload_n 0, 1) := by decide +kernel
theorem dX8_spread_51 : decode cX8_spread 51 = .ok (.getfield 76, 3) := by decide +kernel
theorem dX8_spread_54 : decode cX8_spread 54 = .ok (.if_icmp .eq 7, 3) := by decide +kernel
theorem dX8_spread_57 : decode cX8_spread 57 = .ok (.iconst 1, 1) := by decide +kernel
theorem dX8_spread_58 : decode cX8_spread 58 = .ok (.goto 4, 3) := by decide +kernel
theorem dX8_spread_61 : decode cX8_spread 61 = .ok (.iconst 0, 1) := by decide +kernel
theorem dX8_spread_62 : decode cX8_spread 62 = .ok (.putfield 23, 3) := by decide +kernel
theorem dX8_spread_65 : decode cX8_spread 65 = .ok (.aload_n 0, 1) := by decide +kernel
theorem dX8_spread_66 : decode cX8_spread 66 = .ok (.dup, 1) := by decide +kernel
theorem dX8_spread_67 : decode cX8_spread 67 = .ok (.getfield 76, 3) := by decide +kernel
theorem dX8_spread_70 : decode cX8_spread 70 = .ok (.iload_n 3, 1) := by decide +kernel
theorem dX8_spread_71 : decode cX8_spread 71 = .ok (.ior, 1) := by decide +kernel
theorem dX8_spread_72 : decode cX8_spread 72 = .ok (.putfield 76, 3) := by decide +kernel
theorem dX8_spread_75 : decode cX8_spread 75 = .ok (.goto 59, 3) := by decide +kernel
theorem dX8_spread_78 : decode cX8_spread 78 = .ok (.iload 5, 2) := by decide +kernel
theorem dX8_spread_80 : decode cX8_spread 80 = .ok (.bipush 10, 2) := by decide +kernel
theorem dX8_spread_82 : decode cX8_spread 82 = .ok (.if_icmp .ne 25, 3) := by decide +kernel
theorem dX8_spread_85 : decode cX8_spread 85 = .ok (.aload_n 0, 1) := by decide +kernel
theorem dX8_spread_86 : decode cX8_spread 86 = .ok (.aload_n 0, 1) := by decide +kernel
theorem dX8_spread_87 : decode cX8_spread 87 = .ok (.getfield 9, 3) := by decide +kernel
theorem dX8_spread_90 : decode cX8_spread 90 = .ok (.aload_n 1, 1) := by decide +kernel
theorem dX8_spread_91 : decode cX8_spread 91 = .ok (.iload 4, 2) := by decide +kernel
theorem dX8_spread_93 : decode cX8_spread 93 = .ok (.invokevirtual 60, 3) := by decide +kernel
theorem dX8_spread_96 : decode cX8_spread 96 = .ok (.invokevirtual 32, 3) := by decide +kernel
theorem dX8_spread_99 : decode cX8_spread 99 = .ok (.iload_n 3, 1) := by decide +kernel
theorem dX8_spread_100 : decode cX8_spread 100 = .ok (.iload_n 2, 1) := by decide +kernel
theorem dX8_spread_101 : decode cX8_spread 101 = .ok (.invokevirtual 102, 3) := by decide +kernel
theorem dX8_spread_104 : decode cX8_spread 104 = .ok (.goto 30, 3) := by decide +kernel
theorem dX8_spread_107 : decode cX8_spread 107 = .ok (.aload_n 0, 1) := by decide +kernel
theorem dX8_spread_108 : decode cX8_spread 108 = .ok (.aload_n 0, 1) := by decide +kernel
theorem dX8_spread_109 : decode cX8_spread 109 = .ok (.getfield 9, 3) := by decide +kernel
theorem dX8_spread_112 : decode cX8_spread 112 = .ok (.iload 5, 2) := by decide +kernel
theorem dX8_spread_114 : decode cX8_spread 114 = .ok (.aload_n 1, 1) := by decide +kernel
theorem dX8_spread_115 : decode cX8_spread 115 = .ok (.iload 4, 2) := by decide +kernel
theorem dX8_spread_117 : decode cX8_spread 117 = .ok (.invokevirtual 60, 3) := by decide +kernel
theorem dX8_spread_120 : decode cX8_spread 120 = .ok (.aload_n 1, 1) := by decide +kernel
theorem dX8_spread_121 : decode cX8_spread 121 = .ok (.iload 4, 2) := by decide +kernel
theorem dX8_spread_123 : decode cX8_spread 123 = .ok (.invokevirtual 63, 3) := by decide +kernel
theorem dX8_spread_126 : decode cX8_spread 126 = .ok (.invokevirtual 106, 3) := by decide +kernel
theorem dX8_spread_129 : decode cX8_spread 129 = .ok (.iload_n 3, 1) := by decide +kernel
theorem dX8_spread_130 : decode cX8_spread 130 = .ok (.iload_n 2, 1) := by decide +kernel
theorem dX8_spread_131 : decode cX8_spread 131 = .ok (.invokevirtual 110, 3) := by decide +kernel
theorem dX8_spread_134 : decode cX8_spread 134 = .ok (.iinc 4 1, 3) := by decide +kernel
theorem dX8_spread_137 : decode cX8_spread 137 = .ok (.goto (-125), 3) := by decide +kernel
theorem dX8_spread_140 : decode cX8_spread 140 = .ok (.return_, 1) := by decide +kernel
theorem dX8_spreadPart_0 : decode cX8_spreadPart 0 = .ok (.aload_n 1, 1) := by decide +kernel
theorem dX8_spreadPart_1 : decode cX8_spreadPart 1 = .ok (.getfield 79, 3) := by decide +kernel
theorem dX8_spreadPart_4 : decode cX8_spreadPart 4 = .ok (.iconst 2, 1) := by decide +kernel
theorem dX8_spreadPart_5 : decode cX8_spreadPart 5 = .ok (.if_icmp .ne 17, 3) := by decide +kernel
theorem dX8_spreadPart_8 : decode cX8_spreadPart 8 = .ok (.aload_n 0, 1) := by decide +kernel
theorem dX8_spreadPart_9 : decode cX8_spreadPart 9 = .ok (.aload_n 1, 1) := by decide +kernel
theorem dX8_spreadPart_10 : decode cX8_spreadPart 10 = .ok (.iconst 1, 1) := by decide +kernel
theorem dX8_spreadPart_11 : decode cX8_spreadPart 11 = .ok (.aload_n 1, 1) := by decide +kernel
theorem dX8_spreadPart_12 : decode cX8_spreadPart 12 = .ok (.iload_n 3, 1) := by decide +kernel
theorem dX8_spreadPart_13 : decode cX8_spreadPart 13 = .ok (.invokestatic 85, 3) := by decide +kernel
theorem dX8_spreadPart_16 : decode cX8_spreadPart 16 = .ok (.invokevirtual 89, 3) := by decide +kernel
theorem dX8_spreadPart_19 : decode cX8_spreadPart 19 = .ok (.goto 69, 3) := by decide +kernel
theorem dX8_spreadPart_22 : decode cX8_spreadPart 22 = .ok (.aload_n 1, 1) := by decide +kernel
theorem dX8_spreadPart_23 : decode cX8_spreadPart 23 = .ok (.getfield 79, 3) := by decide +kernel
theorem dX8_spreadPart_26 : decode cX8_spreadPart 26 = .ok (.iconst 3, 1) := by decide +kernel
theorem dX8_spreadPart_27 : decode cX8_spreadPart 27 = .ok (.if_icmp .ne 47, 3) := by decide +kernel
theorem dX8_spreadPart_30 : decode cX8_spreadPart 30 = .ok (.iload_n 3, 1) := by decide +kernel
theorem dX8_spreadPart_31 : decode cX8_spreadPart 31 = .ok (.bipush 8, 2) := by decide +kernel
theorem dX8_spreadPart_33 : decode cX8_spreadPart 33 = .ok (.aload_n 1, 1) := by decide +kernel
theorem dX8_spreadPart_34 : decode cX8_spreadPart 34 = .ok (.getfield 114, 3) := by decide +kernel
theorem dX8_spreadPart_37 : decode cX8_spreadPart 37 = .ok (.iadd, 1) := by decide +kernel
theorem dX8_spreadPart_38 : decode cX8_spreadPart 38 = .ok (.iushr, 1) := by decide +kernel
theorem dX8_spreadPart_39 : decode cX8_spreadPart 39 = .ok (.iconst 1, 1) := by decide +kernel
theorem dX8_spreadPart_40 : decode cX8_spreadPart 40 = .ok (.iand, 1) := by decide +kernel
theorem dX8_spreadPart_41 : decode cX8_spreadPart 41 = .ok (.ifCond .eq 7, 3) := by decide +kernel
theorem dX8_spreadPart_44 : decode cX8_spreadPart 44 = .ok (.iconst 1, 1) := by decide +kernel
theorem dX8_spreadPart_45 : decode cX8_spreadPart 45 = .ok (.goto 4, 3) := by decide +kernel
theorem dX8_spreadPart_48 : decode cX8_spreadPart 48 = .ok (.iconst 0, 1) := by decide +kernel
theorem dX8_spreadPart_49 : decode cX8_spreadPart 49 = .ok (.istore 4, 2) := by decide +kernel
theorem dX8_spreadPart_51 : decode cX8_spreadPart 51 = .ok (.aload_n 0, 1) := by decide +kernel
theorem dX8_spreadPart_52 : decode cX8_spreadPart 52 = .ok (.aload_n 1, 1) := by decide +kernel
theorem dX8_spreadPart_53 : decode cX8_spreadPart 53 = .ok (.iload 4, 2) := by decide +kernel
theorem dX8_spreadPart_55 : decode cX8_spreadPart 55 = .ok (.ifCond .eq 7, 3) := by decide +kernel
theorem dX8_spreadPart_58 : decode cX8_spreadPart 58 = .ok (.iconst 1, 1) := by decide +kernel
theorem dX8_spreadPart_59 : decode cX8_spreadPart 59 = .ok (.goto 4, 3) := by decide +kernel
theorem dX8_spreadPart_62 : decode cX8_spreadPart 62 = .ok (.iload_n 2, 1) := by decide +kernel
theorem dX8_spreadPart_63 : decode cX8_spreadPart 63 = .ok (.aload_n 1, 1) := by decide +kernel
theorem dX8_spreadPart_64 : decode cX8_spreadPart 64 = .ok (.iload_n 3, 1) := by decide +kernel
theorem dX8_spreadPart_65 : decode cX8_spreadPart 65 = .ok (.invokestatic 85, 3) := by decide +kernel
theorem dX8_spreadPart_68 : decode cX8_spreadPart 68 = .ok (.invokevirtual 89, 3) := by decide +kernel
theorem dX8_spreadPart_71 : decode cX8_spreadPart 71 = .ok (.goto 17, 3) := by decide +kernel
theorem dX8_spreadPart_74 : decode cX8_spreadPart 74 = .ok (.aload_n 0, 1) := by decide +kernel
theorem dX8_spreadPart_75 : decode cX8_spreadPart 75 = .ok (.aload_n 1, 1) := by decide +kernel
theorem dX8_spreadPart_76 : decode cX8_spreadPart 76 = .ok (.aload_n 0, 1) := by decide +kernel
theorem dX8_spreadPart_77 : decode cX8_spreadPart 77 = .ok (.getfield 76, 3) := by decide +kernel
theorem dX8_spreadPart_80 : decode cX8_spreadPart 80 = .ok (.aload_n 1, 1) := by decide +kernel
theorem dX8_spreadPart_81 : decode cX8_spreadPart 81 = .ok (.iload_n 3, 1) := by decide +kernel
theorem dX8_spreadPart_82 : decode cX8_spreadPart 82 = .ok (.invokestatic 85, 3) := by decide +kernel
theorem dX8_spreadPart_85 : decode cX8_spreadPart 85 = .ok (.invokevirtual 89, 3) := by decide +kernel
theorem dX8_spreadPart_88 : decode cX8_spreadPart 88 = .ok (.return_, 1) := by decide +kernel
theorem dX8_spreadGroup_0 : decode cX8_spreadGroup 0 = .ok (.iconst 0, 1) := by decide +kernel
theorem dX8_spreadGroup_1 : decode cX8_spreadGroup 1 = .ok (.istore 4, 2) := by decide +kernel
theorem dX8_spreadGroup_3 : decode cX8_spreadGroup 3 = .ok (.iload_n 1, 1) := by decide +kernel
theorem dX8_spreadGroup_4 : decode cX8_spreadGroup 4 = .ok (.iconst (-1), 1) := by decide +kernel
theorem dX8_spreadGroup_5 : decode cX8_spreadGroup 5 = .ok (.if_icmp .eq 64, 3) := by decide +kernel
theorem dX8_spreadGroup_8 : decode cX8_spreadGroup 8 = .ok (.iload 4, 2) := by decide +kernel
theorem dX8_spreadGroup_10 : decode cX8_spreadGroup 10 = .ok (.aload_n 0, 1) := by decide +kernel
theorem dX8_spreadGroup_11 : decode cX8_spreadGroup 11 = .ok (.getfield 9, 3) := by decide +kernel
theorem dX8_spreadGroup_14 : decode cX8_spreadGroup 14 = .ok (.getfield 26, 3) := by decide +kernel
theorem dX8_spreadGroup_17 : decode cX8_spreadGroup 17 = .ok (.if_icmp .ge 52, 3) := by decide +kernel
theorem dX8_spreadGroup_20 : decode cX8_spreadGroup 20 = .ok (.aload_n 0, 1) := by decide +kernel
theorem dX8_spreadGroup_21 : decode cX8_spreadGroup 21 = .ok (.getfield 9, 3) := by decide +kernel
theorem dX8_spreadGroup_24 : decode cX8_spreadGroup 24 = .ok (.iload 4, 2) := by decide +kernel
theorem dX8_spreadGroup_26 : decode cX8_spreadGroup 26 = .ok (.invokevirtual 32, 3) := by decide +kernel
theorem dX8_spreadGroup_29 : decode cX8_spreadGroup 29 = .ok (.getfield 45, 3) := by decide +kernel
theorem dX8_spreadGroup_32 : decode cX8_spreadGroup 32 = .ok (.iload_n 1, 1) := by decide +kernel
theorem dX8_spreadGroup_33 : decode cX8_spreadGroup 33 = .ok (.if_icmp .ne 30, 3) := by decide +kernel
theorem dX8_spreadGroup_36 : decode cX8_spreadGroup 36 = .ok (.aload_n 0, 1) := by decide +kernel
theorem dX8_spreadGroup_37 : decode cX8_spreadGroup 37 = .ok (.aload_n 0, 1) := by decide +kernel
theorem dX8_spreadGroup_38 : decode cX8_spreadGroup 38 = .ok (.getfield 9, 3) := by decide +kernel
theorem dX8_spreadGroup_41 : decode cX8_spreadGroup 41 = .ok (.iload 4, 2) := by decide +kernel
theorem dX8_spreadGroup_43 : decode cX8_spreadGroup 43 = .ok (.invokevirtual 32, 3) := by decide +kernel
theorem dX8_spreadGroup_46 : decode cX8_spreadGroup 46 = .ok (.iload_n 2, 1) := by decide +kernel
theorem dX8_spreadGroup_47 : decode cX8_spreadGroup 47 = .ok (.aload_n 0, 1) := by decide +kernel
theorem dX8_spreadGroup_48 : decode cX8_spreadGroup 48 = .ok (.getfield 9, 3) := by decide +kernel
theorem dX8_spreadGroup_51 : decode cX8_spreadGroup 51 = .ok (.iload 4, 2) := by decide +kernel
theorem dX8_spreadGroup_53 : decode cX8_spreadGroup 53 = .ok (.invokevirtual 32, 3) := by decide +kernel
theorem dX8_spreadGroup_56 : decode cX8_spreadGroup 56 = .ok (.iload_n 3, 1) := by decide +kernel
theorem dX8_spreadGroup_57 : decode cX8_spreadGroup 57 = .ok (.invokestatic 85, 3) := by decide +kernel
theorem dX8_spreadGroup_60 : decode cX8_spreadGroup 60 = .ok (.invokevirtual 89, 3) := by decide +kernel
theorem dX8_spreadGroup_63 : decode cX8_spreadGroup 63 = .ok (.iinc 4 1, 3) := by decide +kernel
theorem dX8_spreadGroup_66 : decode cX8_spreadGroup 66 = .ok (.goto (-63), 3) := by decide +kernel
theorem dX8_spreadGroup_69 : decode cX8_spreadGroup 69 = .ok (.return_, 1) := by decide +kernel
theorem dX8_meetOf_0 : decode cX8_meetOf 0 = .ok (.iload_n 2, 1) := by decide +kernel
theorem dX8_meetOf_1 : decode cX8_meetOf 1 = .ok (.aload_n 1, 1) := by decide +kernel
theorem dX8_meetOf_2 : decode cX8_meetOf 2 = .ok (.getfield 117, 3) := by decide +kernel
theorem dX8_meetOf_5 : decode cX8_meetOf 5 = .ok (.iushr, 1) := by decide +kernel
theorem dX8_meetOf_6 : decode cX8_meetOf 6 = .ok (.iconst 1, 1) := by decide +kernel
theorem dX8_meetOf_7 : decode cX8_meetOf 7 = .ok (.iand, 1) := by decide +kernel
theorem dX8_meetOf_8 : decode cX8_meetOf 8 = .ok (.ifCond .eq 7, 3) := by decide +kernel
theorem dX8_meetOf_11 : decode cX8_meetOf 11 = .ok (.iconst 1, 1) := by decide +kernel
theorem dX8_meetOf_12 : decode cX8_meetOf 12 = .ok (.goto 4, 3) := by decide +kernel
theorem dX8_meetOf_15 : decode cX8_meetOf 15 = .ok (.iconst 0, 1) := by decide +kernel
theorem dX8_meetOf_16 : decode cX8_meetOf 16 = .ok (.istore_n 3, 1) := by decide +kernel
theorem dX8_meetOf_17 : decode cX8_meetOf 17 = .ok (.iload_n 3, 1) := by decide +kernel
theorem dX8_meetOf_18 : decode cX8_meetOf 18 = .ok (.ifCond .ne 7, 3) := by decide +kernel
theorem dX8_meetOf_21 : decode cX8_meetOf 21 = .ok (.iload_n 0, 1) := by decide +kernel
theorem dX8_meetOf_22 : decode cX8_meetOf 22 = .ok (.ifCond .ne 7, 3) := by decide +kernel
theorem dX8_meetOf_25 : decode cX8_meetOf 25 = .ok (.iload_n 0, 1) := by decide +kernel
theorem dX8_meetOf_26 : decode cX8_meetOf 26 = .ok (.goto 4, 3) := by decide +kernel
theorem dX8_meetOf_29 : decode cX8_meetOf 29 = .ok (.iconst 2, 1) := by decide +kernel
theorem dX8_meetOf_30 : decode cX8_meetOf 30 = .ok (.ireturn, 1) := by decide +kernel
theorem dX8_addMay_0 : decode cX8_addMay 0 = .ok (.aload_n 1, 1) := by decide +kernel
theorem dX8_addMay_1 : decode cX8_addMay 1 = .ok (.getfield 99, 3) := by decide +kernel
theorem dX8_addMay_4 : decode cX8_addMay 4 = .ok (.istore_n 3, 1) := by decide +kernel
theorem dX8_addMay_5 : decode cX8_addMay 5 = .ok (.iload_n 3, 1) := by decide +kernel
theorem dX8_addMay_6 : decode cX8_addMay 6 = .ok (.ifCond .lt 41, 3) := by decide +kernel
theorem dX8_addMay_9 : decode cX8_addMay 9 = .ok (.iload_n 3, 1) := by decide +kernel
theorem dX8_addMay_10 : decode cX8_addMay 10 = .ok (.bipush 60, 2) := by decide +kernel
theorem dX8_addMay_12 : decode cX8_addMay 12 = .ok (.if_icmp .ge 35, 3) := by decide +kernel
theorem dX8_addMay_15 : decode cX8_addMay 15 = .ok (.aload_n 0, 1) := by decide +kernel
theorem dX8_addMay_16 : decode cX8_addMay 16 = .ok (.getfield 15, 3) := by decide +kernel
theorem dX8_addMay_19 : decode cX8_addMay 19 = .ok (.iload_n 3, 1) := by decide +kernel
theorem dX8_addMay_20 : decode cX8_addMay 20 = .ok (.iaload, 1) := by decide +kernel
theorem dX8_addMay_21 : decode cX8_addMay 21 = .ok (.iload_n 2, 1) := by decide +kernel
theorem dX8_addMay_22 : decode cX8_addMay 22 = .ok (.ior, 1) := by decide +kernel
theorem dX8_addMay_23 : decode cX8_addMay 23 = .ok (.aload_n 0, 1) := by decide +kernel
theorem dX8_addMay_24 : decode cX8_addMay 24 = .ok (.getfield 15, 3) := by decide +kernel
theorem dX8_addMay_27 : decode cX8_addMay 27 = .ok (.iload_n 3, 1) := by decide +kernel
theorem dX8_addMay_28 : decode cX8_addMay 28 = .ok (.iaload, 1) := by decide +kernel
theorem dX8_addMay_29 : decode cX8_addMay 29 = .ok (.if_icmp .eq 18, 3) := by decide +kernel
theorem dX8_addMay_32 : decode cX8_addMay 32 = .ok (.aload_n 0, 1) := by decide +kernel
theorem dX8_addMay_33 : decode cX8_addMay 33 = .ok (.getfield 15, 3) := by decide +kernel
theorem dX8_addMay_36 : decode cX8_addMay 36 = .ok (.iload_n 3, 1) := by decide +kernel
theorem dX8_addMay_37 : decode cX8_addMay 37 = .ok (.dup2, 1) := by decide +kernel
theorem dX8_addMay_38 : decode cX8_addMay 38 = .ok (.iaload, 1) := by decide +kernel
theorem dX8_addMay_39 : decode cX8_addMay 39 = .ok (.iload_n 2, 1) := by decide +kernel
theorem dX8_addMay_40 : decode cX8_addMay 40 = .ok (.ior, 1) := by decide +kernel
theorem dX8_addMay_41 : decode cX8_addMay 41 = .ok (.iastore, 1) := by decide +kernel
theorem dX8_addMay_42 : decode cX8_addMay 42 = .ok (.aload_n 0, 1) := by decide +kernel
theorem dX8_addMay_43 : decode cX8_addMay 43 = .ok (.iconst 1, 1) := by decide +kernel
theorem dX8_addMay_44 : decode cX8_addMay 44 = .ok (.putfield 23, 3) := by decide +kernel
theorem dX8_addMay_47 : decode cX8_addMay 47 = .ok (.return_, 1) := by decide +kernel
theorem dX9_open_0 : decode cX9_open 0 = .ok (.aload_n 0, 1) := by decide +kernel
theorem dX9_open_1 : decode cX9_open 1 = .ok (.iload_n 1, 1) := by decide +kernel
theorem dX9_open_2 : decode cX9_open 2 = .ok (.putfield 30, 3) := by decide +kernel
theorem dX9_open_5 : decode cX9_open 5 = .ok (.aload_n 0, 1) := by decide +kernel
theorem dX9_open_6 : decode cX9_open 6 = .ok (.iload_n 2, 1) := by decide +kernel
theorem dX9_open_7 : decode cX9_open 7 = .ok (.putfield 34, 3) := by decide +kernel
theorem dX9_open_10 : decode cX9_open 10 = .ok (.aload_n 0, 1) := by decide +kernel
theorem dX9_open_11 : decode cX9_open 11 = .ok (.iload_n 3, 1) := by decide +kernel
theorem dX9_open_12 : decode cX9_open 12 = .ok (.putfield 37, 3) := by decide +kernel
theorem dX9_open_15 : decode cX9_open 15 = .ok (.aload_n 0, 1) := by decide +kernel
theorem dX9_open_16 : decode cX9_open 16 = .ok (.iload 4, 2) := by decide +kernel
theorem dX9_open_18 : decode cX9_open 18 = .ok (.putfield 40, 3) := by decide +kernel
theorem dX9_open_21 : decode cX9_open 21 = .ok (.aload_n 0, 1) := by decide +kernel
theorem dX9_open_22 : decode cX9_open 22 = .ok (.lconst 0, 1) := by decide +kernel
theorem dX9_open_23 : decode cX9_open 23 = .ok (.putfield 43, 3) := by decide +kernel
theorem dX9_open_26 : decode cX9_open 26 = .ok (.aload_n 0, 1) := by decide +kernel
theorem dX9_open_27 : decode cX9_open 27 = .ok (.iconst 0, 1) := by decide +kernel
theorem dX9_open_28 : decode cX9_open 28 = .ok (.putfield 47, 3) := by decide +kernel
theorem dX9_open_31 : decode cX9_open 31 = .ok (.aload_n 0, 1) := by decide +kernel
theorem dX9_open_32 : decode cX9_open 32 = .ok (.iconst (-1), 1) := by decide +kernel
theorem dX9_open_33 : decode cX9_open 33 = .ok (.putfield 50, 3) := by decide +kernel
theorem dX9_open_36 : decode cX9_open 36 = .ok (.aload_n 0, 1) := by decide +kernel
theorem dX9_open_37 : decode cX9_open 37 = .ok (.iload_n 1, 1) := by decide +kernel
theorem dX9_open_38 : decode cX9_open 38 = .ok (.putfield 53, 3) := by decide +kernel
theorem dX9_open_41 : decode cX9_open 41 = .ok (.aload_n 0, 1) := by decide +kernel
theorem dX9_open_42 : decode cX9_open 42 = .ok (.iload_n 2, 1) := by decide +kernel
theorem dX9_open_43 : decode cX9_open 43 = .ok (.ifCond .ne 7, 3) := by decide +kernel
theorem dX9_open_46 : decode cX9_open 46 = .ok (.iconst 1, 1) := by decide +kernel
theorem dX9_open_47 : decode cX9_open 47 = .ok (.goto 4, 3) := by decide +kernel
theorem dX9_open_50 : decode cX9_open 50 = .ok (.iconst 0, 1) := by decide +kernel
theorem dX9_open_51 : decode cX9_open 51 = .ok (.putfield 56, 3) := by decide +kernel
theorem dX9_open_54 : decode cX9_open 54 = .ok (.aload_n 0, 1) := by decide +kernel
theorem dX9_open_55 : decode cX9_open 55 = .ok (.iconst 0, 1) := by decide +kernel
theorem dX9_open_56 : decode cX9_open 56 = .ok (.putfield 59, 3) := by decide +kernel
theorem dX9_open_59 : decode cX9_open 59 = .ok (.aload_n 0, 1) := by decide +kernel
theorem dX9_open_60 : decode cX9_open 60 = .ok (.iconst 0, 1) := by decide +kernel
theorem dX9_open_61 : decode cX9_open 61 = .ok (.putfield 62, 3) := by decide +kernel
theorem dX9_open_64 : decode cX9_open 64 = .ok (.aload_n 0, 1) := by decide +kernel
theorem dX9_open_65 : decode cX9_open 65 = .ok (.iconst 0, 1) := by decide +kernel
theorem dX9_open_66 : decode cX9_open 66 = .ok (.putfield 66, 3) := by decide +kernel
theorem dX9_open_69 : decode cX9_open 69 = .ok (.aload_n 0, 1) := by decide +kernel
theorem dX9_open_70 : decode cX9_open 70 = .ok (.getfield 20, 3) := by decide +kernel
theorem dX9_open_73 : decode cX9_open 73 = .ok (.iconst 0, 1) := by decide +kernel
theorem dX9_open_74 : decode cX9_open 74 = .ok (.putfield 69, 3) := by decide +kernel
theorem dX9_open_77 : decode cX9_open 77 = .ok (.return_, 1) := by decide +kernel
theorem dX9_ownKey_0 : decode cX9_ownKey 0 = .ok (.aload_n 0, 1) := by decide +kernel
theorem dX9_ownKey_1 : decode cX9_ownKey 1 = .ok (.getfield 30, 3) := by decide +kernel
theorem dX9_ownKey_4 : decode cX9_ownKey 4 = .ok (.sipush 1024, 3) := by decide +kernel
theorem dX9_ownKey_7 : decode cX9_ownKey 7 = .ok (.imul, 1) := by decide +kernel
theorem dX9_ownKey_8 : decode cX9_ownKey 8 = .ok (.iload_n 1, 1) := by decide +kernel
theorem dX9_ownKey_9 : decode cX9_ownKey 9 = .ok (.iadd, 1) := by decide +kernel
theorem dX9_ownKey_10 : decode cX9_ownKey 10 = .ok (.ireturn, 1) := by decide +kernel
theorem dX9_ownerOf_0 : decode cX9_ownerOf 0 = .ok (.iload_n 0, 1) := by decide +kernel
theorem dX9_ownerOf_1 : decode cX9_ownerOf 1 = .ok (.sipush 1024, 3) := by decide +kernel
theorem dX9_ownerOf_4 : decode cX9_ownerOf 4 = .ok (.idiv, 1) := by decide +kernel
theorem dX9_ownerOf_5 : decode cX9_ownerOf 5 = .ok (.ireturn, 1) := by decide +kernel
theorem dX9_addOwn_0 : decode cX9_addOwn 0 = .ok (.aload_n 0, 1) := by decide +kernel
theorem dX9_addOwn_1 : decode cX9_addOwn 1 = .ok (.aload_n 0, 1) := by decide +kernel
theorem dX9_addOwn_2 : decode cX9_addOwn 2 = .ok (.getfield 56, 3) := by decide +kernel
theorem dX9_addOwn_5 : decode cX9_addOwn 5 = .ok (.invokevirtual 72, 3) := by decide +kernel
theorem dX9_addOwn_8 : decode cX9_addOwn 8 = .ok (.istore_n 1, 1) := by decide +kernel
theorem dX9_addOwn_9 : decode cX9_addOwn 9 = .ok (.aload_n 0, 1) := by decide +kernel
theorem dX9_addOwn_10 : decode cX9_addOwn 10 = .ok (.dup, 1) := by decide +kernel
theorem dX9_addOwn_11 : decode cX9_addOwn 11 = .ok (.getfield 56, 3) := by decide +kernel
theorem dX9_addOwn_14 : decode cX9_addOwn 14 = .ok (.iconst 1, 1) := by decide +kernel
theorem dX9_addOwn_15 : decode cX9_addOwn 15 = .ok (.iadd, 1) := by decide +kernel
theorem dX9_addOwn_16 : decode cX9_addOwn 16 = .ok (.putfield 56, 3) := by decide +kernel
theorem dX9_addOwn_19 : decode cX9_addOwn 19 = .ok (.iload_n 1, 1) := by decide +kernel
theorem dX9_addOwn_20 : decode cX9_addOwn 20 = .ok (.ireturn, 1) := by decide +kernel
theorem dX9_addLabel_0 : decode cX9_addLabel 0 = .ok (.aload_n 0, 1) := by decide +kernel
theorem dX9_addLabel_1 : decode cX9_addLabel 1 = .ok (.dup, 1) := by decide +kernel
theorem dX9_addLabel_2 : decode cX9_addLabel 2 = .ok (.getfield 66, 3) := by decide +kernel
theorem dX9_addLabel_5 : decode cX9_addLabel 5 = .ok (.iconst 1, 1) := by decide +kernel
theorem dX9_addLabel_6 : decode cX9_addLabel 6 = .ok (.iadd, 1) := by decide +kernel
theorem dX9_addLabel_7 : decode cX9_addLabel 7 = .ok (.putfield 66, 3) := by decide +kernel
theorem dX9_addLabel_10 : decode cX9_addLabel 10 = .ok (.aload_n 0, 1) := by decide +kernel
theorem dX9_addLabel_11 : decode cX9_addLabel 11 = .ok (.getfield 66, 3) := by decide +kernel
theorem dX9_addLabel_14 : decode cX9_addLabel 14 = .ok (.iconst 1, 1) := by decide +kernel
theorem dX9_addLabel_15 : decode cX9_addLabel 15 = .ok (.isub, 1) := by decide +kernel
theorem dX9_addLabel_16 : decode cX9_addLabel 16 = .ok (.ireturn, 1) := by decide +kernel
theorem dX9_capture_0 : decode cX9_capture 0 = .ok (.iconst 0, 1) := by decide +kernel
theorem dX9_capture_1 : decode cX9_capture 1 = .ok (.istore_n 2, 1) := by decide +kernel
theorem dX9_capture_2 : decode cX9_capture 2 = .ok (.iconst 0, 1) := by decide +kernel
theorem dX9_capture_3 : decode cX9_capture 3 = .ok (.istore_n 3, 1) := by decide +kernel
theorem dX9_capture_4 : decode cX9_capture 4 = .ok (.iload_n 3, 1) := by decide +kernel
theorem dX9_capture_5 : decode cX9_capture 5 = .ok (.aload_n 0, 1) := by decide +kernel
theorem dX9_capture_6 : decode cX9_capture 6 = .ok (.getfield 59, 3) := by decide +kernel
theorem dX9_capture_9 : decode cX9_capture 9 = .ok (.if_icmp .ge 29, 3) := by decide +kernel
theorem dX9_capture_12 : decode cX9_capture 12 = .ok (.iload_n 2, 1) := by decide +kernel
theorem dX9_capture_13 : decode cX9_capture 13 = .ok (.ifCond .ne 13, 3) := by decide +kernel
theorem dX9_capture_16 : decode cX9_capture 16 = .ok (.aload_n 0, 1) := by decide +kernel
theorem dX9_capture_17 : decode cX9_capture 17 = .ok (.getfield 11, 3) := by decide +kernel
theorem dX9_capture_20 : decode cX9_capture 20 = .ok (.iload_n 3, 1) := by decide +kernel
theorem dX9_capture_21 : decode cX9_capture 21 = .ok (.iaload, 1) := by decide +kernel
theorem dX9_capture_22 : decode cX9_capture 22 = .ok (.iload_n 1, 1) := by decide +kernel
theorem dX9_capture_23 : decode cX9_capture 23 = .ok (.if_icmp .ne 7, 3) := by decide +kernel
theorem dX9_capture_26 : decode cX9_capture 26 = .ok (.iconst 1, 1) := by decide +kernel
theorem dX9_capture_27 : decode cX9_capture 27 = .ok (.goto 4, 3) := by decide +kernel
theorem dX9_capture_30 : decode cX9_capture 30 = .ok (.iconst 0, 1) := by decide +kernel
theorem dX9_capture_31 : decode cX9_capture 31 = .ok (.istore_n 2, 1) := by decide +kernel
theorem dX9_capture_32 : decode cX9_capture 32 = .ok (.iinc 3 1, 3) := by decide +kernel
theorem dX9_capture_35 : decode cX9_capture 35 = .ok (.goto (-31), 3) := by decide +kernel
theorem dX9_capture_38 : decode cX9_capture 38 = .ok (.iload_n 2, 1) := by decide +kernel
theorem dX9_capture_39 : decode cX9_capture 39 = .ok (.ifCond .ne 32, 3) := by decide +kernel
theorem dX9_capture_42 : decode cX9_capture 42 = .ok (.aload_n 0, 1) := by decide +kernel
theorem dX9_capture_43 : decode cX9_capture 43 = .ok (.getfield 59, 3) := by decide +kernel
theorem dX9_capture_46 : decode cX9_capture 46 = .ok (.bipush 13, 2) := by decide +kernel
theorem dX9_capture_48 : decode cX9_capture 48 = .ok (.if_icmp .ge 23, 3) := by decide +kernel
theorem dX9_capture_51 : decode cX9_capture 51 = .ok (.aload_n 0, 1) := by decide +kernel
theorem dX9_capture_52 : decode cX9_capture 52 = .ok (.getfield 11, 3) := by decide +kernel
theorem dX9_capture_55 : decode cX9_capture 55 = .ok (.aload_n 0, 1) := by decide +kernel
theorem dX9_capture_56 : decode cX9_capture 56 = .ok (.getfield 59, 3) := by decide +kernel
theorem dX9_capture_59 : decode cX9_capture 59 = .ok (.iload_n 1, 1) := by decide +kernel
theorem dX9_capture_60 : decode cX9_capture 60 = .ok (.iastore, 1) := by decide +kernel
theorem dX9_capture_61 : decode cX9_capture 61 = .ok (.aload_n 0, 1) := by decide +kernel
theorem dX9_capture_62 : decode cX9_capture 62 = .ok (.dup, 1) := by decide +kernel
theorem dX9_capture_63 : decode cX9_capture 63 = .ok (.getfield 59, 3) := by decide +kernel
theorem dX9_capture_66 : decode cX9_capture 66 = .ok (.iconst 1, 1) := by decide +kernel
theorem dX9_capture_67 : decode cX9_capture 67 = .ok (.iadd, 1) := by decide +kernel
theorem dX9_capture_68 : decode cX9_capture 68 = .ok (.putfield 59, 3) := by decide +kernel
theorem dX9_capture_71 : decode cX9_capture 71 = .ok (.return_, 1) := by decide +kernel
theorem dX9_captureIndex_0 : decode cX9_captureIndex 0 = .ok (.iconst 0, 1) := by decide +kernel
theorem dX9_captureIndex_1 : decode cX9_captureIndex 1 = .ok (.istore_n 2, 1) := by decide +kernel
theorem dX9_captureIndex_2 : decode cX9_captureIndex 2 = .ok (.iload_n 2, 1) := by decide +kernel
theorem dX9_captureIndex_3 : decode cX9_captureIndex 3 = .ok (.aload_n 0, 1) := by decide +kernel
theorem dX9_captureIndex_4 : decode cX9_captureIndex 4 = .ok (.getfield 59, 3) := by decide +kernel
theorem dX9_captureIndex_7 : decode cX9_captureIndex 7 = .ok (.if_icmp .ge 21, 3) := by decide +kernel
theorem dX9_captureIndex_10 : decode cX9_captureIndex 10 = .ok (.aload_n 0, 1) := by decide +kernel
theorem dX9_captureIndex_11 : decode cX9_captureIndex 11 = .ok (.getfield 11, 3) := by decide +kernel
theorem dX9_captureIndex_14 : decode cX9_captureIndex 14 = .ok (.iload_n 2, 1) := by decide +kernel
theorem dX9_captureIndex_15 : decode cX9_captureIndex 15 = .ok (.iaload, 1) := by decide +kernel
theorem dX9_captureIndex_16 : decode cX9_captureIndex 16 = .ok (.iload_n 1, 1) := by decide +kernel
theorem dX9_captureIndex_17 : decode cX9_captureIndex 17 = .ok (.if_icmp .ne 5, 3) := by decide +kernel
theorem dX9_captureIndex_20 : decode cX9_captureIndex 20 = .ok (.iload_n 2, 1) := by decide +kernel
theorem dX9_captureIndex_21 : decode cX9_captureIndex 21 = .ok (.ireturn, 1) := by decide +kernel
theorem dX9_captureIndex_22 : decode cX9_captureIndex 22 = .ok (.iinc 2 1, 3) := by decide +kernel
theorem dX9_captureIndex_25 : decode cX9_captureIndex 25 = .ok (.goto (-23), 3) := by decide +kernel
theorem dX9_captureIndex_28 : decode cX9_captureIndex 28 = .ok (.iconst (-1), 1) := by decide +kernel
theorem dX9_captureIndex_29 : decode cX9_captureIndex 29 = .ok (.ireturn, 1) := by decide +kernel
theorem dX9_locals_0 : decode cX9_locals 0 = .ok (.aload_n 0, 1) := by decide +kernel
theorem dX9_locals_1 : decode cX9_locals 1 = .ok (.getfield 59, 3) := by decide +kernel
theorem dX9_locals_4 : decode cX9_locals 4 = .ok (.aload_n 0, 1) := by decide +kernel
theorem dX9_locals_5 : decode cX9_locals 5 = .ok (.getfield 56, 3) := by decide +kernel
theorem dX9_locals_8 : decode cX9_locals 8 = .ok (.iadd, 1) := by decide +kernel
theorem dX9_locals_9 : decode cX9_locals 9 = .ok (.ireturn, 1) := by decide +kernel
theorem dX9_localOf_0 : decode cX9_localOf 0 = .ok (.iload_n 1, 1) := by decide +kernel
theorem dX9_localOf_1 : decode cX9_localOf 1 = .ok (.invokestatic 76, 3) := by decide +kernel
theorem dX9_localOf_4 : decode cX9_localOf 4 = .ok (.aload_n 0, 1) := by decide +kernel
theorem dX9_localOf_5 : decode cX9_localOf 5 = .ok (.getfield 30, 3) := by decide +kernel
theorem dX9_localOf_8 : decode cX9_localOf 8 = .ok (.if_icmp .ne 16, 3) := by decide +kernel
theorem dX9_localOf_11 : decode cX9_localOf 11 = .ok (.aload_n 0, 1) := by decide +kernel
theorem dX9_localOf_12 : decode cX9_localOf 12 = .ok (.getfield 59, 3) := by decide +kernel
theorem dX9_localOf_15 : decode cX9_localOf 15 = .ok (.iload_n 1, 1) := by decide +kernel
theorem dX9_localOf_16 : decode cX9_localOf 16 = .ok (.sipush 1024, 3) := by decide +kernel
theorem dX9_localOf_19 : decode cX9_localOf 19 = .ok (.irem, 1) := by decide +kernel
theorem dX9_localOf_20 : decode cX9_localOf 20 = .ok (.iadd, 1) := by decide +kernel
theorem dX9_localOf_21 : decode cX9_localOf 21 = .ok (.goto 8, 3) := by decide +kernel
theorem dX9_localOf_24 : decode cX9_localOf 24 = .ok (.aload_n 0, 1) := by decide +kernel
theorem dX9_localOf_25 : decode cX9_localOf 25 = .ok (.iload_n 1, 1) := by decide +kernel
theorem dX9_localOf_26 : decode cX9_localOf 26 = .ok (.invokevirtual 79, 3) := by decide +kernel
theorem dX9_localOf_29 : decode cX9_localOf 29 = .ok (.ireturn, 1) := by decide +kernel
theorem dX9_emit_0 : decode cX9_emit 0 = .ok (.aload_n 0, 1) := by decide +kernel
theorem dX9_emit_1 : decode cX9_emit 1 = .ok (.getfield 20, 3) := by decide +kernel
theorem dX9_emit_4 : decode cX9_emit 4 = .ok (.iload_n 1, 1) := by decide +kernel
theorem dX9_emit_5 : decode cX9_emit 5 = .ok (.i2l, 1) := by decide +kernel
theorem dX9_emit_6 : decode cX9_emit 6 = .ok (.invokevirtual 82, 3) := by decide +kernel
theorem dX9_emit_9 : decode cX9_emit 9 = .ok (.aload_n 0, 1) := by decide +kernel
theorem dX9_emit_10 : decode cX9_emit 10 = .ok (.getfield 20, 3) := by decide +kernel
theorem dX9_emit_13 : decode cX9_emit 13 = .ok (.iload_n 2, 1) := by decide +kernel
theorem dX9_emit_14 : decode cX9_emit 14 = .ok (.i2l, 1) := by decide +kernel
theorem dX9_emit_15 : decode cX9_emit 15 = .ok (.invokevirtual 82, 3) := by decide +kernel
theorem dX9_emit_18 : decode cX9_emit 18 = .ok (.aload_n 0, 1) := by decide +kernel
theorem dX9_emit_19 : decode cX9_emit 19 = .ok (.getfield 20, 3) := by decide +kernel
theorem dX9_emit_22 : decode cX9_emit 22 = .ok (.iload_n 3, 1) := by decide +kernel
theorem dX9_emit_23 : decode cX9_emit 23 = .ok (.i2l, 1) := by decide +kernel
theorem dX9_emit_24 : decode cX9_emit 24 = .ok (.invokevirtual 82, 3) := by decide +kernel
theorem dX9_emit_27 : decode cX9_emit 27 = .ok (.return_, 1) := by decide +kernel
theorem dX9_length_0 : decode cX9_length 0 = .ok (.aload_n 0, 1) := by decide +kernel
theorem dX9_length_1 : decode cX9_length 1 = .ok (.getfield 20, 3) := by decide +kernel
theorem dX9_length_4 : decode cX9_length 4 = .ok (.getfield 69, 3) := by decide +kernel
theorem dX9_length_7 : decode cX9_length 7 = .ok (.iconst 3, 1) := by decide +kernel
theorem dX9_length_8 : decode cX9_length 8 = .ok (.idiv, 1) := by decide +kernel
theorem dX9_length_9 : decode cX9_length 9 = .ok (.ireturn, 1) := by decide +kernel
theorem dX9_what_0 : decode cX9_what 0 = .ok (.aload_n 0, 1) := by decide +kernel
theorem dX9_what_1 : decode cX9_what 1 = .ok (.getfield 20, 3) := by decide +kernel
theorem dX9_what_4 : decode cX9_what 4 = .ok (.iload_n 1, 1) := by decide +kernel
theorem dX9_what_5 : decode cX9_what 5 = .ok (.iconst 3, 1) := by decide +kernel
theorem dX9_what_6 : decode cX9_what 6 = .ok (.imul, 1) := by decide +kernel
theorem dX9_what_7 : decode cX9_what 7 = .ok (.invokevirtual 86, 3) := by decide +kernel
theorem dX9_what_10 : decode cX9_what 10 = .ok (.ireturn, 1) := by decide +kernel
theorem dX9_first_0 : decode cX9_first 0 = .ok (.aload_n 0, 1) := by decide +kernel
theorem dX9_first_1 : decode cX9_first 1 = .ok (.getfield 20, 3) := by decide +kernel
theorem dX9_first_4 : decode cX9_first 4 = .ok (.iload_n 1, 1) := by decide +kernel
theorem dX9_first_5 : decode cX9_first 5 = .ok (.iconst 3, 1) := by decide +kernel
theorem dX9_first_6 : decode cX9_first 6 = .ok (.imul, 1) := by decide +kernel
theorem dX9_first_7 : decode cX9_first 7 = .ok (.iconst 1, 1) := by decide +kernel
theorem dX9_first_8 : decode cX9_first 8 = .ok (.iadd, 1) := by decide +kernel
theorem dX9_first_9 : decode cX9_first 9 = .ok (.invokevirtual 86, 3) := by decide +kernel
theorem dX9_first_12 : decode cX9_first 12 = .ok (.ireturn, 1) := by decide +kernel
theorem dX9_second_0 : decode cX9_second 0 = .ok (.aload_n 0, 1) := by decide +kernel
theorem dX9_second_1 : decode cX9_second 1 = .ok (.getfield 20, 3) := by decide +kernel
theorem dX9_second_4 : decode cX9_second 4 = .ok (.iload_n 1, 1) := by decide +kernel
theorem dX9_second_5 : decode cX9_second 5 = .ok (.iconst 3, 1) := by decide +kernel
theorem dX9_second_6 : decode cX9_second 6 = .ok (.imul, 1) := by decide +kernel
theorem dX9_second_7 : decode cX9_second 7 = .ok (.iconst 2, 1) := by decide +kernel
theorem dX9_second_8 : decode cX9_second 8 = .ok (.iadd, 1) := by decide +kernel
theorem dX9_second_9 : decode cX9_second 9 = .ok (.invokevirtual 86, 3) := by decide +kernel
theorem dX9_second_12 : decode cX9_second 12 = .ok (.ireturn, 1) := by decide +kernel
theorem dX9_write_0 : decode cX9_write 0 = .ok (.iload_n 2, 1) := by decide +kernel
theorem dX9_write_1 : decode cX9_write 1 = .ok (.ifCond .eq 10, 3) := by decide +kernel
theorem dX9_write_4 : decode cX9_write 4 = .ok (.aload_n 0, 1) := by decide +kernel
theorem dX9_write_5 : decode cX9_write 5 = .ok (.getfield 27, 3) := by decide +kernel
theorem dX9_write_8 : decode cX9_write 8 = .ok (.goto 7, 3) := by decide +kernel
theorem dX9_write_11 : decode cX9_write 11 = .ok (.aload_n 0, 1) := by decide +kernel
theorem dX9_write_12 : decode cX9_write 12 = .ok (.getfield 24, 3) := by decide +kernel
theorem dX9_write_15 : decode cX9_write 15 = .ok (.astore 4, 2) := by decide +kernel
theorem dX9_write_17 : decode cX9_write 17 = .ok (.iconst 0, 1) := by decide +kernel
theorem dX9_write_18 : decode cX9_write 18 = .ok (.istore 5, 2) := by decide +kernel
theorem dX9_write_20 : decode cX9_write 20 = .ok (.iload 5, 2) := by decide +kernel
theorem dX9_write_22 : decode cX9_write 22 = .ok (.iconst 2, 1) := by decide +kernel
theorem dX9_write_23 : decode cX9_write 23 = .ok (.if_icmp .ge 60, 3) := by decide +kernel
theorem dX9_write_26 : decode cX9_write 26 = .ok (.aload 4, 2) := by decide +kernel
theorem dX9_write_28 : decode cX9_write 28 = .ok (.iconst 0, 1) := by decide +kernel
theorem dX9_write_29 : decode cX9_write 29 = .ok (.invokevirtual 89, 3) := by decide +kernel
theorem dX9_write_32 : decode cX9_write 32 = .ok (.iload_n 2, 1) := by decide +kernel
theorem dX9_write_33 : decode cX9_write 33 = .ok (.ifCond .eq 16, 3) := by decide +kernel
theorem dX9_write_36 : decode cX9_write 36 = .ok (.aload_n 0, 1) := by decide +kernel
theorem dX9_write_37 : decode cX9_write 37 = .ok (.getfield 62, 3) := by decide +kernel
theorem dX9_write_40 : decode cX9_write 40 = .ok (.ifCond .eq 9, 3) := by decide +kernel
theorem dX9_write_43 : decode cX9_write 43 = .ok (.aload_n 0, 1) := by decide +kernel
theorem dX9_write_44 : decode cX9_write 44 = .ok (.aload 4, 2) := by decide +kernel
theorem dX9_write_46 : decode cX9_write 46 = .ok (.invokevirtual 92, 3) := by decide +kernel
theorem dX9_write_49 : decode cX9_write 49 = .ok (.iconst 0, 1) := by decide +kernel
theorem dX9_write_50 : decode cX9_write 50 = .ok (.istore 6, 2) := by decide +kernel
theorem dX9_write_52 : decode cX9_write 52 = .ok (.iload 6, 2) := by decide +kernel
theorem dX9_write_54 : decode cX9_write 54 = .ok (.aload_n 0, 1) := by decide +kernel
theorem dX9_write_55 : decode cX9_write 55 = .ok (.invokevirtual 96, 3) := by decide +kernel
theorem dX9_write_58 : decode cX9_write 58 = .ok (.if_icmp .ge 19, 3) := by decide +kernel
theorem dX9_write_61 : decode cX9_write 61 = .ok (.aload_n 0, 1) := by decide +kernel
theorem dX9_write_62 : decode cX9_write 62 = .ok (.aload_n 1, 1) := by decide +kernel
theorem dX9_write_63 : decode cX9_write 63 = .ok (.aload 4, 2) := by decide +kernel
theorem dX9_write_65 : decode cX9_write 65 = .ok (.iload 6, 2) := by decide +kernel
theorem dX9_write_67 : decode cX9_write 67 = .ok (.aload_n 3, 1) := by decide +kernel
theorem dX9_write_68 : decode cX9_write 68 = .ok (.invokevirtual 100, 3) := by decide +kernel
theorem dX9_write_71 : decode cX9_write 71 = .ok (.iinc 6 1, 3) := by decide +kernel
theorem dX9_write_74 : decode cX9_write 74 = .ok (.goto (-22), 3) := by decide +kernel
theorem dX9_write_77 : decode cX9_write 77 = .ok (.iinc 5 1, 3) := by decide +kernel
theorem dX9_write_80 : decode cX9_write 80 = .ok (.goto (-60), 3) := by decide +kernel
theorem dX9_write_83 : decode cX9_write 83 = .ok (.return_, 1) := by decide +kernel
theorem dX9_writeEntry_0 : decode cX9_writeEntry 0 = .ok (.aload_n 0, 1) := by decide +kernel
theorem dX9_writeEntry_1 : decode cX9_writeEntry 1 = .ok (.getfield 34, 3) := by decide +kernel
theorem dX9_writeEntry_4 : decode cX9_writeEntry 4 = .ok (.iconst 2, 1) := by decide +kernel
theorem dX9_writeEntry_5 : decode cX9_writeEntry 5 = .ok (.if_icmp .ne 8, 3) := by decide +kernel
theorem dX9_writeEntry_8 : decode cX9_writeEntry 8 = .ok (.bipush 31, 2) := by decide +kernel
theorem dX9_writeEntry_10 : decode cX9_writeEntry 10 = .ok (.goto 31, 3) := by decide +kernel
theorem dX9_writeEntry_13 : decode cX9_writeEntry 13 = .ok (.aload_n 0, 1) := by decide +kernel
theorem dX9_writeEntry_14 : decode cX9_writeEntry 14 = .ok (.getfield 34, 3) := by decide +kernel
theorem dX9_writeEntry_17 : decode cX9_writeEntry 17 = .ok (.iconst 3, 1) := by decide +kernel
theorem dX9_writeEntry_18 : decode cX9_writeEntry 18 = .ok (.if_icmp .ne 8, 3) := by decide +kernel
theorem dX9_writeEntry_21 : decode cX9_writeEntry 21 = .ok (.bipush 32, 2) := by decide +kernel
theorem dX9_writeEntry_23 : decode cX9_writeEntry 23 = .ok (.goto 18, 3) := by decide +kernel
theorem dX9_writeEntry_26 : decode cX9_writeEntry 26 = .ok (.aload_n 0, 1) := by decide +kernel
theorem dX9_writeEntry_27 : decode cX9_writeEntry 27 = .ok (.getfield 34, 3) := by decide +kernel
theorem dX9_writeEntry_30 : decode cX9_writeEntry 30 = .ok (.iconst 4, 1) := by decide +kernel
theorem dX9_writeEntry_31 : decode cX9_writeEntry 31 = .ok (.if_icmp .ne 8, 3) := by decide +kernel
theorem dX9_writeEntry_34 : decode cX9_writeEntry 34 = .ok (.bipush 33, 2) := by decide +kernel
theorem dX9_writeEntry_36 : decode cX9_writeEntry 36 = .ok (.goto 5, 3) := by decide +kernel
theorem dX9_writeEntry_39 : decode cX9_writeEntry 39 = .ok (.bipush 30, 2) := by decide +kernel
theorem dX9_writeEntry_41 : decode cX9_writeEntry 41 = .ok (.istore_n 2, 1) := by decide +kernel
theorem dX9_writeEntry_42 : decode cX9_writeEntry 42 = .ok (.aload_n 1, 1) := by decide +kernel
theorem dX9_writeEntry_43 : decode cX9_writeEntry 43 = .ok (.iload_n 2, 1) := by decide +kernel
theorem dX9_writeEntry_44 : decode cX9_writeEntry 44 = .ok (.i2l, 1) := by decide +kernel
theorem dX9_writeEntry_45 : decode cX9_writeEntry 45 = .ok (.invokevirtual 82, 3) := by decide +kernel
theorem dX9_writeEntry_48 : decode cX9_writeEntry 48 = .ok (.aload_n 1, 1) := by decide +kernel
theorem dX9_writeEntry_49 : decode cX9_writeEntry 49 = .ok (.aload_n 0, 1) := by decide +kernel
theorem dX9_writeEntry_50 : decode cX9_writeEntry 50 = .ok (.getfield 104, 3) := by decide +kernel
theorem dX9_writeEntry_53 : decode cX9_writeEntry 53 = .ok (.invokevirtual 107, 3) := by decide +kernel
theorem dX9_writeEntry_56 : decode cX9_writeEntry 56 = .ok (.aload_n 0, 1) := by decide +kernel
theorem dX9_writeEntry_57 : decode cX9_writeEntry 57 = .ok (.getfield 34, 3) := by decide +kernel
theorem dX9_writeEntry_60 : decode cX9_writeEntry 60 = .ok (.iconst 3, 1) := by decide +kernel
theorem dX9_writeEntry_61 : decode cX9_writeEntry 61 = .ok (.if_icmp .ne 11, 3) := by decide +kernel
theorem dX9_writeEntry_64 : decode cX9_writeEntry 64 = .ok (.aload_n 1, 1) := by decide +kernel
theorem dX9_writeEntry_65 : decode cX9_writeEntry 65 = .ok (.aload_n 0, 1) := by decide +kernel
theorem dX9_writeEntry_66 : decode cX9_writeEntry 66 = .ok (.getfield 50, 3) := by decide +kernel
theorem dX9_writeEntry_69 : decode cX9_writeEntry 69 = .ok (.invokevirtual 107, 3) := by decide +kernel
theorem dX9_writeEntry_72 : decode cX9_writeEntry 72 = .ok (.return_, 1) := by decide +kernel
theorem dX9_writeOne_0 : decode cX9_writeOne 0 = .ok (.aload_n 0, 1) := by decide +kernel
theorem dX9_writeOne_1 : decode cX9_writeOne 1 = .ok (.iload_n 3, 1) := by decide +kernel
theorem dX9_writeOne_2 : decode cX9_writeOne 2 = .ok (.invokevirtual 110, 3) := by decide +kernel
theorem dX9_writeOne_5 : decode cX9_writeOne 5 = .ok (.istore 5, 2) := by decide +kernel
theorem dX9_writeOne_7 : decode cX9_writeOne 7 = .ok (.aload_n 0, 1) := by decide +kernel
theorem dX9_writeOne_8 : decode cX9_writeOne 8 = .ok (.iload_n 3, 1) := by decide +kernel
theorem dX9_writeOne_9 : decode cX9_writeOne 9 = .ok (.invokevirtual 113, 3) := by decide +kernel
theorem dX9_writeOne_12 : decode cX9_writeOne 12 = .ok (.istore 6, 2) := by decide +kernel
theorem dX9_writeOne_14 : decode cX9_writeOne 14 = .ok (.aload_n 2, 1) := by decide +kernel
theorem dX9_writeOne_15 : decode cX9_writeOne 15 = .ok (.aload_n 0, 1) := by decide +kernel
theorem dX9_writeOne_16 : decode cX9_writeOne 16 = .ok (.getfield 27, 3) := by decide +kernel
theorem dX9_writeOne_19 : decode cX9_writeOne 19 = .ok (.if_acmp .ne 30, 3) := by decide +kernel
theorem dX9_writeOne_22 : decode cX9_writeOne 22 = .ok (.aload_n 0, 1) := by decide +kernel
theorem dX9_writeOne_23 : decode cX9_writeOne 23 = .ok (.getfield 62, 3) := by decide +kernel
theorem dX9_writeOne_26 : decode cX9_writeOne 26 = .ok (.ifCond .eq 23, 3) := by decide +kernel
theorem dX9_writeOne_29 : decode cX9_writeOne 29 = .ok (.aload_n 1, 1) := by decide +kernel
theorem dX9_writeOne_30 : decode cX9_writeOne 30 = .ok (.iload 5, 2) := by decide +kernel
theorem dX9_writeOne_32 : decode cX9_writeOne 32 = .ok (.iload 6, 2) := by decide +kernel
theorem dX9_writeOne_34 : decode cX9_writeOne 34 = .ok (.aload_n 0, 1) := by decide +kernel
theorem dX9_writeOne_35 : decode cX9_writeOne 35 = .ok (.iload_n 3, 1) := by decide +kernel
theorem dX9_writeOne_36 : decode cX9_writeOne 36 = .ok (.invokevirtual 116, 3) := by decide +kernel
theorem dX9_writeOne_39 : decode cX9_writeOne 39 = .ok (.invokevirtual 119, 3) := by decide +kernel
theorem dX9_writeOne_42 : decode cX9_writeOne 42 = .ok (.ifCond .eq 7, 3) := by decide +kernel
theorem dX9_writeOne_45 : decode cX9_writeOne 45 = .ok (.iconst 1, 1) := by decide +kernel
theorem dX9_writeOne_46 : decode cX9_writeOne 46 = .ok (.goto 4, 3) := by decide +kernel
theorem dX9_writeOne_49 : decode cX9_writeOne 49 = .ok (.iconst 0, 1) := by decide +kernel
theorem dX9_writeOne_50 : decode cX9_writeOne 50 = .ok (.istore 7, 2) := by decide +kernel
theorem dX9_writeOne_52 : decode cX9_writeOne 52 = .ok (.iload 5, 2) := by decide +kernel
theorem dX9_writeOne_54 : decode cX9_writeOne 54 = .ok (.bipush 100, 2) := by decide +kernel
theorem dX9_writeOne_56 : decode cX9_writeOne 56 = .ok (.if_icmp .ne 26, 3) := by decide +kernel
theorem dX9_writeOne_59 : decode cX9_writeOne 59 = .ok (.iload 6, 2) := by decide +kernel
theorem dX9_writeOne_61 : decode cX9_writeOne 61 = .ok (.ifCond .lt 20, 3) := by decide +kernel
theorem dX9_writeOne_64 : decode cX9_writeOne 64 = .ok (.iload 6, 2) := by decide +kernel
theorem dX9_writeOne_66 : decode cX9_writeOne 66 = .ok (.aload 4, 2) := by decide +kernel
theorem dX9_writeOne_68 : decode cX9_writeOne 68 = .ok (.arraylength, 1) := by decide +kernel
theorem dX9_writeOne_69 : decode cX9_writeOne 69 = .ok (.if_icmp .ge 12, 3) := by decide +kernel
theorem dX9_writeOne_72 : decode cX9_writeOne 72 = .ok (.aload 4, 2) := by decide +kernel
theorem dX9_writeOne_74 : decode cX9_writeOne 74 = .ok (.iload 6, 2) := by decide +kernel
theorem dX9_writeOne_76 : decode cX9_writeOne 76 = .ok (.aload_n 2, 1) := by decide +kernel
theorem dX9_writeOne_77 : decode cX9_writeOne 77 = .ok (.getfield 69, 3) := by decide +kernel
theorem dX9_writeOne_80 : decode cX9_writeOne 80 = .ok (.iastore, 1) := by decide +kernel
theorem dX9_writeOne_81 : decode cX9_writeOne 81 = .ok (.return_, 1) := by decide +kernel
theorem dX9_writeOne_82 : decode cX9_writeOne 82 = .ok (.iload 7, 2) := by decide +kernel
theorem dX9_writeOne_84 : decode cX9_writeOne 84 = .ok (.ifCond .eq 18, 3) := by decide +kernel
theorem dX9_writeOne_87 : decode cX9_writeOne 87 = .ok (.aload_n 2, 1) := by decide +kernel
theorem dX9_writeOne_88 : decode cX9_writeOne 88 = .ok (.ldc2_w 125, 3) := by decide +kernel
theorem dX9_writeOne_91 : decode cX9_writeOne 91 = .ok (.invokevirtual 82, 3) := by decide +kernel
theorem dX9_writeOne_94 : decode cX9_writeOne 94 = .ok (.aload_n 2, 1) := by decide +kernel
theorem dX9_writeOne_95 : decode cX9_writeOne 95 = .ok (.aload_n 0, 1) := by decide +kernel
theorem dX9_writeOne_96 : decode cX9_writeOne 96 = .ok (.invokevirtual 127, 3) := by decide +kernel
theorem dX9_writeOne_99 : decode cX9_writeOne 99 = .ok (.invokevirtual 107, 3) := by decide +kernel
theorem dX9_writeOne_102 : decode cX9_writeOne 102 = .ok (.iload 5, 2) := by decide +kernel
theorem dX9_writeOne_104 : decode cX9_writeOne 104 = .ok (.bipush 27, 2) := by decide +kernel
theorem dX9_writeOne_106 : decode cX9_writeOne 106 = .ok (.if_icmp .ne 9, 3) := by decide +kernel
theorem dX9_writeOne_109 : decode cX9_writeOne 109 = .ok (.iload 7, 2) := by decide +kernel
theorem dX9_writeOne_111 : decode cX9_writeOne 111 = .ok (.ifCond .eq 4, 3) := by decide +kernel
theorem dX9_writeOne_114 : decode cX9_writeOne 114 = .ok (.return_, 1) := by decide +kernel
theorem dX9_writeOne_115 : decode cX9_writeOne 115 = .ok (.aload_n 2, 1) := by decide +kernel
theorem dX9_writeOne_116 : decode cX9_writeOne 116 = .ok (.iload 7, 2) := by decide +kernel
theorem dX9_writeOne_118 : decode cX9_writeOne 118 = .ok (.ifCond .eq 12, 3) := by decide +kernel
theorem dX9_writeOne_121 : decode cX9_writeOne 121 = .ok (.iload 5, 2) := by decide +kernel
theorem dX9_writeOne_123 : decode cX9_writeOne 123 = .ok (.bipush 64, 2) := by decide +kernel
theorem dX9_writeOne_125 : decode cX9_writeOne 125 = .ok (.iadd, 1) := by decide +kernel
theorem dX9_writeOne_126 : decode cX9_writeOne 126 = .ok (.i2l, 1) := by decide +kernel
theorem dX9_writeOne_127 : decode cX9_writeOne 127 = .ok (.goto 6, 3) := by decide +kernel
theorem dX9_writeOne_130 : decode cX9_writeOne 130 = .ok (.iload 5, 2) := by decide +kernel
theorem dX9_writeOne_132 : decode cX9_writeOne 132 = .ok (.i2l, 1) := by decide +kernel
theorem dX9_writeOne_133 : decode cX9_writeOne 133 = .ok (.invokevirtual 82, 3) := by decide +kernel
theorem dX9_writeOne_136 : decode cX9_writeOne 136 = .ok (.iload 5, 2) := by decide +kernel
theorem dX9_writeOne_138 : decode cX9_writeOne 138 = .ok (.ifCond .lt 21, 3) := by decide +kernel
theorem dX9_writeOne_141 : decode cX9_writeOne 141 = .ok (.iload 5, 2) := by decide +kernel
theorem dX9_writeOne_143 : decode cX9_writeOne 143 = .ok (.getstatic 130, 3) := by decide +kernel
theorem dX9_writeOne_146 : decode cX9_writeOne 146 = .ok (.arraylength, 1) := by decide +kernel
theorem dX9_writeOne_147 : decode cX9_writeOne 147 = .ok (.if_icmp .ge 12, 3) := by decide +kernel
theorem dX9_writeOne_150 : decode cX9_writeOne 150 = .ok (.getstatic 130, 3) := by decide +kernel
theorem dX9_writeOne_153 : decode cX9_writeOne 153 = .ok (.iload 5, 2) := by decide +kernel
theorem dX9_writeOne_155 : decode cX9_writeOne 155 = .ok (.iaload, 1) := by decide +kernel
theorem dX9_writeOne_156 : decode cX9_writeOne 156 = .ok (.goto 4, 3) := by decide +kernel
theorem dX9_writeOne_159 : decode cX9_writeOne 159 = .ok (.iconst 0, 1) := by decide +kernel
theorem dX9_writeOne_160 : decode cX9_writeOne 160 = .ok (.istore 8, 2) := by decide +kernel
theorem dX9_writeOne_162 : decode cX9_writeOne 162 = .ok (.iload 8, 2) := by decide +kernel
theorem dX9_writeOne_164 : decode cX9_writeOne 164 = .ok (.ifCond .le 17, 3) := by decide +kernel
theorem dX9_writeOne_167 : decode cX9_writeOne 167 = .ok (.aload_n 2, 1) := by decide +kernel
theorem dX9_writeOne_168 : decode cX9_writeOne 168 = .ok (.aload_n 0, 1) := by decide +kernel
theorem dX9_writeOne_169 : decode cX9_writeOne 169 = .ok (.iload 5, 2) := by decide +kernel
theorem dX9_writeOne_171 : decode cX9_writeOne 171 = .ok (.iload 6, 2) := by decide +kernel
theorem dX9_writeOne_173 : decode cX9_writeOne 173 = .ok (.aload 4, 2) := by decide +kernel
theorem dX9_writeOne_175 : decode cX9_writeOne 175 = .ok (.invokevirtual 133, 3) := by decide +kernel
theorem dX9_writeOne_178 : decode cX9_writeOne 178 = .ok (.invokevirtual 107, 3) := by decide +kernel
theorem dX9_writeOne_181 : decode cX9_writeOne 181 = .ok (.iload 8, 2) := by decide +kernel
theorem dX9_writeOne_183 : decode cX9_writeOne 183 = .ok (.iconst 1, 1) := by decide +kernel
theorem dX9_writeOne_184 : decode cX9_writeOne 184 = .ok (.if_icmp .le 12, 3) := by decide +kernel
theorem dX9_writeOne_187 : decode cX9_writeOne 187 = .ok (.aload_n 2, 1) := by decide +kernel
theorem dX9_writeOne_188 : decode cX9_writeOne 188 = .ok (.aload_n 0, 1) := by decide +kernel
theorem dX9_writeOne_189 : decode cX9_writeOne 189 = .ok (.iload_n 3, 1) := by decide +kernel
theorem dX9_writeOne_190 : decode cX9_writeOne 190 = .ok (.invokevirtual 116, 3) := by decide +kernel
theorem dX9_writeOne_193 : decode cX9_writeOne 193 = .ok (.invokevirtual 107, 3) := by decide +kernel
theorem dX9_writeOne_196 : decode cX9_writeOne 196 = .ok (.return_, 1) := by decide +kernel
theorem dX9_operandOf_0 : decode cX9_operandOf 0 = .ok (.iload_n 1, 1) := by decide +kernel
theorem dX9_operandOf_1 : decode cX9_operandOf 1 = .ok (.iconst 2, 1) := by decide +kernel
theorem dX9_operandOf_2 : decode cX9_operandOf 2 = .ok (.if_icmp .eq 8, 3) := by decide +kernel
theorem dX9_operandOf_5 : decode cX9_operandOf 5 = .ok (.iload_n 1, 1) := by decide +kernel
theorem dX9_operandOf_6 : decode cX9_operandOf 6 = .ok (.iconst 3, 1) := by decide +kernel
theorem dX9_operandOf_7 : decode cX9_operandOf 7 = .ok (.if_icmp .ne 9, 3) := by decide +kernel
theorem dX9_operandOf_10 : decode cX9_operandOf 10 = .ok (.aload_n 0, 1) := by decide +kernel
theorem dX9_operandOf_11 : decode cX9_operandOf 11 = .ok (.iload_n 2, 1) := by decide +kernel
theorem dX9_operandOf_12 : decode cX9_operandOf 12 = .ok (.invokevirtual 137, 3) := by decide +kernel
theorem dX9_operandOf_15 : decode cX9_operandOf 15 = .ok (.ireturn, 1) := by decide +kernel
theorem dX9_operandOf_16 : decode cX9_operandOf 16 = .ok (.iload_n 1, 1) := by decide +kernel
theorem dX9_operandOf_17 : decode cX9_operandOf 17 = .ok (.bipush 17, 2) := by decide +kernel
theorem dX9_operandOf_19 : decode cX9_operandOf 19 = .ok (.if_icmp .eq 15, 3) := by decide +kernel
theorem dX9_operandOf_22 : decode cX9_operandOf 22 = .ok (.iload_n 1, 1) := by decide +kernel
theorem dX9_operandOf_23 : decode cX9_operandOf 23 = .ok (.bipush 18, 2) := by decide +kernel
theorem dX9_operandOf_25 : decode cX9_operandOf 25 = .ok (.if_icmp .eq 9, 3) := by decide +kernel
theorem dX9_operandOf_28 : decode cX9_operandOf 28 = .ok (.iload_n 1, 1) := by decide +kernel
theorem dX9_operandOf_29 : decode cX9_operandOf 29 = .ok (.bipush 19, 2) := by decide +kernel
theorem dX9_operandOf_31 : decode cX9_operandOf 31 = .ok (.if_icmp .ne 21, 3) := by decide +kernel
theorem dX9_operandOf_34 : decode cX9_operandOf 34 = .ok (.iload_n 2, 1) := by decide +kernel
theorem dX9_operandOf_35 : decode cX9_operandOf 35 = .ok (.ifCond .lt 15, 3) := by decide +kernel
theorem dX9_operandOf_38 : decode cX9_operandOf 38 = .ok (.iload_n 2, 1) := by decide +kernel
theorem dX9_operandOf_39 : decode cX9_operandOf 39 = .ok (.aload_n 3, 1) := by decide +kernel
theorem dX9_operandOf_40 : decode cX9_operandOf 40 = .ok (.arraylength, 1) := by decide +kernel
theorem dX9_operandOf_41 : decode cX9_operandOf 41 = .ok (.if_icmp .ge 9, 3) := by decide +kernel
theorem dX9_operandOf_44 : decode cX9_operandOf 44 = .ok (.aload_n 3, 1) := by decide +kernel
theorem dX9_operandOf_45 : decode cX9_operandOf 45 = .ok (.iload_n 2, 1) := by decide +kernel
theorem dX9_operandOf_46 : decode cX9_operandOf 46 = .ok (.iaload, 1) := by decide +kernel
theorem dX9_operandOf_47 : decode cX9_operandOf 47 = .ok (.goto 4, 3) := by decide +kernel
theorem dX9_operandOf_50 : decode cX9_operandOf 50 = .ok (.iconst 0, 1) := by decide +kernel
theorem dX9_operandOf_51 : decode cX9_operandOf 51 = .ok (.ireturn, 1) := by decide +kernel
theorem dX9_operandOf_52 : decode cX9_operandOf 52 = .ok (.iload_n 2, 1) := by decide +kernel
theorem dX9_operandOf_53 : decode cX9_operandOf 53 = .ok (.ireturn, 1) := by decide +kernel
theorem dX9_tell_0 : decode cX9_tell 0 = .ok (.iload_n 1, 1) := by decide +kernel
theorem dX9_tell_1 : decode cX9_tell 1 = .ok (.tableswitch 110 0 8 #[51, 56, 61, 66, 71, 76, 81, 94, 102], 51) := by decide +kernel
theorem dX9_tell_52 : decode cX9_tell 52 = .ok (.aload_n 0, 1) := by decide +kernel
theorem dX9_tell_53 : decode cX9_tell 53 = .ok (.getfield 34, 3) := by decide +kernel
theorem dX9_tell_56 : decode cX9_tell 56 = .ok (.ireturn, 1) := by decide +kernel
theorem dX9_tell_57 : decode cX9_tell 57 = .ok (.aload_n 0, 1) := by decide +kernel
theorem dX9_tell_58 : decode cX9_tell 58 = .ok (.getfield 37, 3) := by decide +kernel
theorem dX9_tell_61 : decode cX9_tell 61 = .ok (.ireturn, 1) := by decide +kernel
theorem dX9_tell_62 : decode cX9_tell 62 = .ok (.aload_n 0, 1) := by decide +kernel
theorem dX9_tell_63 : decode cX9_tell 63 = .ok (.getfield 40, 3) := by decide +kernel
theorem dX9_tell_66 : decode cX9_tell 66 = .ok (.ireturn, 1) := by decide +kernel
theorem dX9_tell_67 : decode cX9_tell 67 = .ok (.aload_n 0, 1) := by decide +kernel
theorem dX9_tell_68 : decode cX9_tell 68 = .ok (.getfield 47, 3) := by decide +kernel
theorem dX9_tell_71 : decode cX9_tell 71 = .ok (.ireturn, 1) := by decide +kernel
theorem dX9_tell_72 : decode cX9_tell 72 = .ok (.aload_n 0, 1) := by decide +kernel
theorem dX9_tell_73 : decode cX9_tell 73 = .ok (.getfield 59, 3) := by decide +kernel
theorem dX9_tell_76 : decode cX9_tell 76 = .ok (.ireturn, 1) := by decide +kernel
theorem dX9_tell_77 : decode cX9_tell 77 = .ok (.aload_n 0, 1) := by decide +kernel
theorem dX9_tell_78 : decode cX9_tell 78 = .ok (.invokevirtual 127, 3) := by decide +kernel
theorem dX9_tell_81 : decode cX9_tell 81 = .ok (.ireturn, 1) := by decide +kernel
theorem dX9_tell_82 : decode cX9_tell 82 = .ok (.aload_n 0, 1) := by decide +kernel
theorem dX9_tell_83 : decode cX9_tell 83 = .ok (.getfield 62, 3) := by decide +kernel
theorem dX9_tell_86 : decode cX9_tell 86 = .ok (.ifCond .eq 7, 3) := by decide +kernel
theorem dX9_tell_89 : decode cX9_tell 89 = .ok (.iconst 1, 1) := by decide +kernel
theorem dX9_tell_90 : decode cX9_tell 90 = .ok (.goto 4, 3) := by decide +kernel
theorem dX9_tell_93 : decode cX9_tell 93 = .ok (.iconst 0, 1) := by decide +kernel
theorem dX9_tell_94 : decode cX9_tell 94 = .ok (.ireturn, 1) := by decide +kernel
theorem dX9_tell_95 : decode cX9_tell 95 = .ok (.aload_n 0, 1) := by decide +kernel
theorem dX9_tell_96 : decode cX9_tell 96 = .ok (.getfield 24, 3) := by decide +kernel
theorem dX9_tell_99 : decode cX9_tell 99 = .ok (.getfield 69, 3) := by decide +kernel
theorem dX9_tell_102 : decode cX9_tell 102 = .ok (.ireturn, 1) := by decide +kernel
theorem dX9_tell_103 : decode cX9_tell 103 = .ok (.aload_n 0, 1) := by decide +kernel
theorem dX9_tell_104 : decode cX9_tell 104 = .ok (.getfield 27, 3) := by decide +kernel
theorem dX9_tell_107 : decode cX9_tell 107 = .ok (.getfield 69, 3) := by decide +kernel
theorem dX9_tell_110 : decode cX9_tell 110 = .ok (.ireturn, 1) := by decide +kernel
theorem dX9_tell_111 : decode cX9_tell 111 = .ok (.iconst (-1), 1) := by decide +kernel
theorem dX9_tell_112 : decode cX9_tell 112 = .ok (.ireturn, 1) := by decide +kernel
theorem dX10_isLetter_0 : decode cX10_isLetter 0 = .ok (.iload_n 0, 1) := by decide +kernel
theorem dX10_isLetter_1 : decode cX10_isLetter 1 = .ok (.bipush 97, 2) := by decide +kernel
theorem dX10_isLetter_3 : decode cX10_isLetter 3 = .ok (.if_icmp .lt 13, 3) := by decide +kernel
theorem dX10_isLetter_6 : decode cX10_isLetter 6 = .ok (.iload_n 0, 1) := by decide +kernel
theorem dX10_isLetter_7 : decode cX10_isLetter 7 = .ok (.bipush 122, 2) := by decide +kernel
theorem dX10_isLetter_9 : decode cX10_isLetter 9 = .ok (.if_icmp .gt 7, 3) := by decide +kernel
theorem dX10_isLetter_12 : decode cX10_isLetter 12 = .ok (.iconst 1, 1) := by decide +kernel
theorem dX10_isLetter_13 : decode cX10_isLetter 13 = .ok (.goto 4, 3) := by decide +kernel
theorem dX10_isLetter_16 : decode cX10_isLetter 16 = .ok (.iconst 0, 1) := by decide +kernel
theorem dX10_isLetter_17 : decode cX10_isLetter 17 = .ok (.ireturn, 1) := by decide +kernel
theorem dX10_isDigit_0 : decode cX10_isDigit 0 = .ok (.iload_n 0, 1) := by decide +kernel
theorem dX10_isDigit_1 : decode cX10_isDigit 1 = .ok (.bipush 48, 2) := by decide +kernel
theorem dX10_isDigit_3 : decode cX10_isDigit 3 = .ok (.if_icmp .lt 13, 3) := by decide +kernel
theorem dX10_isDigit_6 : decode cX10_isDigit 6 = .ok (.iload_n 0, 1) := by decide +kernel
theorem dX10_isDigit_7 : decode cX10_isDigit 7 = .ok (.bipush 57, 2) := by decide +kernel
theorem dX10_isDigit_9 : decode cX10_isDigit 9 = .ok (.if_icmp .gt 7, 3) := by decide +kernel
theorem dX10_isDigit_12 : decode cX10_isDigit 12 = .ok (.iconst 1, 1) := by decide +kernel
theorem dX10_isDigit_13 : decode cX10_isDigit 13 = .ok (.goto 4, 3) := by decide +kernel
theorem dX10_isDigit_16 : decode cX10_isDigit 16 = .ok (.iconst 0, 1) := by decide +kernel
theorem dX10_isDigit_17 : decode cX10_isDigit 17 = .ok (.ireturn, 1) := by decide +kernel
theorem dX10_hasTail_0 : decode cX10_hasTail 0 = .ok (.aload_n 0, 1) := by decide +kernel
theorem dX10_hasTail_1 : decode cX10_hasTail 1 = .ok (.getfield 73, 3) := by decide +kernel
theorem dX10_hasTail_4 : decode cX10_hasTail 4 = .ok (.iconst 4, 1) := by decide +kernel
theorem dX10_hasTail_5 : decode cX10_hasTail 5 = .ok (.if_icmp .ne 24, 3) := by decide +kernel
theorem dX10_hasTail_8 : decode cX10_hasTail 8 = .ok (.aload_n 0, 1) := by decide +kernel
theorem dX10_hasTail_9 : decode cX10_hasTail 9 = .ok (.getfield 24, 3) := by decide +kernel
theorem dX10_hasTail_12 : decode cX10_hasTail 12 = .ok (.aload_n 0, 1) := by decide +kernel
theorem dX10_hasTail_13 : decode cX10_hasTail 13 = .ok (.getfield 82, 3) := by decide +kernel
theorem dX10_hasTail_16 : decode cX10_hasTail 16 = .ok (.l2i, 1) := by decide +kernel
theorem dX10_hasTail_17 : decode cX10_hasTail 17 = .ok (.iconst 1, 1) := by decide +kernel
theorem dX10_hasTail_18 : decode cX10_hasTail 18 = .ok (.iadd, 1) := by decide +kernel
theorem dX10_hasTail_19 : decode cX10_hasTail 19 = .ok (.invokevirtual 69, 3) := by decide +kernel
theorem dX10_hasTail_22 : decode cX10_hasTail 22 = .ok (.ifCond .eq 7, 3) := by decide +kernel
theorem dX10_hasTail_25 : decode cX10_hasTail 25 = .ok (.iconst 1, 1) := by decide +kernel
theorem dX10_hasTail_26 : decode cX10_hasTail 26 = .ok (.goto 4, 3) := by decide +kernel
theorem dX10_hasTail_29 : decode cX10_hasTail 29 = .ok (.iconst 0, 1) := by decide +kernel
theorem dX10_hasTail_30 : decode cX10_hasTail 30 = .ok (.ireturn, 1) := by decide +kernel
theorem dX10_copyPattern_0 : decode cX10_copyPattern 0 = .ok (.aload_n 0, 1) := by decide +kernel
theorem dX10_copyPattern_1 : decode cX10_copyPattern 1 = .ok (.getfield 82, 3) := by decide +kernel
theorem dX10_copyPattern_4 : decode cX10_copyPattern 4 = .ok (.l2i, 1) := by decide +kernel
theorem dX10_copyPattern_5 : decode cX10_copyPattern 5 = .ok (.istore_n 2, 1) := by decide +kernel
theorem dX10_copyPattern_6 : decode cX10_copyPattern 6 = .ok (.aload_n 1, 1) := by decide +kernel
theorem dX10_copyPattern_7 : decode cX10_copyPattern 7 = .ok (.iconst 0, 1) := by decide +kernel
theorem dX10_copyPattern_8 : decode cX10_copyPattern 8 = .ok (.putfield 86, 3) := by decide +kernel
theorem dX10_copyPattern_11 : decode cX10_copyPattern 11 = .ok (.aload_n 1, 1) := by decide +kernel
theorem dX10_copyPattern_12 : decode cX10_copyPattern 12 = .ok (.aload_n 0, 1) := by decide +kernel
theorem dX10_copyPattern_13 : decode cX10_copyPattern 13 = .ok (.getfield 24, 3) := by decide +kernel
theorem dX10_copyPattern_16 : decode cX10_copyPattern 16 = .ok (.iload_n 2, 1) := by decide +kernel
theorem dX10_copyPattern_17 : decode cX10_copyPattern 17 = .ok (.iconst 1, 1) := by decide +kernel
theorem dX10_copyPattern_18 : decode cX10_copyPattern 18 = .ok (.iadd, 1) := by decide +kernel
theorem dX10_copyPattern_19 : decode cX10_copyPattern 19 = .ok (.invokevirtual 69, 3) := by decide +kernel
theorem dX10_copyPattern_22 : decode cX10_copyPattern 22 = .ok (.putfield 91, 3) := by decide +kernel
theorem dX10_copyPattern_25 : decode cX10_copyPattern 25 = .ok (.iconst 0, 1) := by decide +kernel
theorem dX10_copyPattern_26 : decode cX10_copyPattern 26 = .ok (.istore_n 3, 1) := by decide +kernel
theorem dX10_copyPattern_27 : decode cX10_copyPattern 27 = .ok (.iload_n 3, 1) := by decide +kernel
theorem dX10_copyPattern_28 : decode cX10_copyPattern 28 = .ok (.aload_n 0, 1) := by decide +kernel
theorem dX10_copyPattern_29 : decode cX10_copyPattern 29 = .ok (.getfield 24, 3) := by decide +kernel
theorem dX10_copyPattern_32 : decode cX10_copyPattern 32 = .ok (.iload_n 2, 1) := by decide +kernel
theorem dX10_copyPattern_33 : decode cX10_copyPattern 33 = .ok (.invokevirtual 69, 3) := by decide +kernel
theorem dX10_copyPattern_36 : decode cX10_copyPattern 36 = .ok (.if_icmp .ge 25, 3) := by decide +kernel
theorem dX10_copyPattern_39 : decode cX10_copyPattern 39 = .ok (.aload_n 1, 1) := by decide +kernel
theorem dX10_copyPattern_40 : decode cX10_copyPattern 40 = .ok (.aload_n 0, 1) := by decide +kernel
theorem dX10_copyPattern_41 : decode cX10_copyPattern 41 = .ok (.getfield 24, 3) := by decide +kernel
theorem dX10_copyPattern_44 : decode cX10_copyPattern 44 = .ok (.iload_n 2, 1) := by decide +kernel
theorem dX10_copyPattern_45 : decode cX10_copyPattern 45 = .ok (.iconst 2, 1) := by decide +kernel
theorem dX10_copyPattern_46 : decode cX10_copyPattern 46 = .ok (.iadd, 1) := by decide +kernel
theorem dX10_copyPattern_47 : decode cX10_copyPattern 47 = .ok (.iload_n 3, 1) := by decide +kernel
theorem dX10_copyPattern_48 : decode cX10_copyPattern 48 = .ok (.iadd, 1) := by decide +kernel
theorem dX10_copyPattern_49 : decode cX10_copyPattern 49 = .ok (.invokevirtual 78, 3) := by decide +kernel
theorem dX10_copyPattern_52 : decode cX10_copyPattern 52 = .ok (.invokevirtual 94, 3) := by decide +kernel
theorem dX10_copyPattern_55 : decode cX10_copyPattern 55 = .ok (.iinc 3 1, 3) := by decide +kernel
theorem dX10_copyPattern_58 : decode cX10_copyPattern 58 = .ok (.goto (-31), 3) := by decide +kernel
theorem dX10_copyPattern_61 : decode cX10_copyPattern 61 = .ok (.return_, 1) := by decide +kernel
theorem dX10_beginsPrefix_0 : decode cX10_beginsPrefix 0 = .ok (.aload_n 0, 1) := by decide +kernel
theorem dX10_beginsPrefix_1 : decode cX10_beginsPrefix 1 = .ok (.getfield 73, 3) := by decide +kernel
theorem dX10_beginsPrefix_4 : decode cX10_beginsPrefix 4 = .ok (.iconst 2, 1) := by decide +kernel
theorem dX10_beginsPrefix_5 : decode cX10_beginsPrefix 5 = .ok (.if_icmp .eq 29, 3) := by decide +kernel
theorem dX10_beginsPrefix_8 : decode cX10_beginsPrefix 8 = .ok (.aload_n 0, 1) := by decide +kernel
theorem dX10_beginsPrefix_9 : decode cX10_beginsPrefix 9 = .ok (.getfield 73, 3) := by decide +kernel
theorem dX10_beginsPrefix_12 : decode cX10_beginsPrefix 12 = .ok (.iconst 3, 1) := by decide +kernel
theorem dX10_beginsPrefix_13 : decode cX10_beginsPrefix 13 = .ok (.if_icmp .eq 21, 3) := by decide +kernel
theorem dX10_beginsPrefix_16 : decode cX10_beginsPrefix 16 = .ok (.aload_n 0, 1) := by decide +kernel
theorem dX10_beginsPrefix_17 : decode cX10_beginsPrefix 17 = .ok (.getfield 73, 3) := by decide +kernel
theorem dX10_beginsPrefix_20 : decode cX10_beginsPrefix 20 = .ok (.bipush 123, 2) := by decide +kernel
theorem dX10_beginsPrefix_22 : decode cX10_beginsPrefix 22 = .ok (.if_icmp .eq 12, 3) := by decide +kernel
theorem dX10_beginsPrefix_25 : decode cX10_beginsPrefix 25 = .ok (.aload_n 0, 1) := by decide +kernel
theorem dX10_beginsPrefix_26 : decode cX10_beginsPrefix 26 = .ok (.getfield 73, 3) := by decide +kernel
theorem dX10_beginsPrefix_29 : decode cX10_beginsPrefix 29 = .ok (.bipush 40, 2) := by decide +kernel
theorem dX10_beginsPrefix_31 : decode cX10_beginsPrefix 31 = .ok (.if_icmp .ne 5, 3) := by decide +kernel
theorem dX10_beginsPrefix_34 : decode cX10_beginsPrefix 34 = .ok (.iconst 1, 1) := by decide +kernel
theorem dX10_beginsPrefix_35 : decode cX10_beginsPrefix 35 = .ok (.ireturn, 1) := by decide +kernel
theorem dX10_beginsPrefix_36 : decode cX10_beginsPrefix 36 = .ok (.aload_n 0, 1) := by decide +kernel
theorem dX10_beginsPrefix_37 : decode cX10_beginsPrefix 37 = .ok (.getfield 73, 3) := by decide +kernel
theorem dX10_beginsPrefix_40 : decode cX10_beginsPrefix 40 = .ok (.sipush 220, 3) := by decide +kernel
theorem dX10_beginsPrefix_43 : decode cX10_beginsPrefix 43 = .ok (.if_icmp .lt 17, 3) := by decide +kernel
theorem dX10_beginsPrefix_46 : decode cX10_beginsPrefix 46 = .ok (.aload_n 0, 1) := by decide +kernel
theorem dX10_beginsPrefix_47 : decode cX10_beginsPrefix 47 = .ok (.getfield 73, 3) := by decide +kernel
theorem dX10_beginsPrefix_50 : decode cX10_beginsPrefix 50 = .ok (.sipush 232, 3) := by decide +kernel
theorem dX10_beginsPrefix_53 : decode cX10_beginsPrefix 53 = .ok (.if_icmp .gt 7, 3) := by decide +kernel
theorem dX10_beginsPrefix_56 : decode cX10_beginsPrefix 56 = .ok (.iconst 1, 1) := by decide +kernel
theorem dX10_beginsPrefix_57 : decode cX10_beginsPrefix 57 = .ok (.goto 4, 3) := by decide +kernel
theorem dX10_beginsPrefix_60 : decode cX10_beginsPrefix 60 = .ok (.iconst 0, 1) := by decide +kernel
theorem dX10_beginsPrefix_61 : decode cX10_beginsPrefix 61 = .ok (.ireturn, 1) := by decide +kernel
theorem dX10_beginsExpression_0 : decode cX10_beginsExpression 0 = .ok (.aload_n 0, 1) := by decide +kernel
theorem dX10_beginsExpression_1 : decode cX10_beginsExpression 1 = .ok (.getfield 73, 3) := by decide +kernel
theorem dX10_beginsExpression_4 : decode cX10_beginsExpression 4 = .ok (.sipush 213, 3) := by decide +kernel
theorem dX10_beginsExpression_7 : decode cX10_beginsExpression 7 = .ok (.if_icmp .eq 30, 3) := by decide +kernel
theorem dX10_beginsExpression_10 : decode cX10_beginsExpression 10 = .ok (.aload_n 0, 1) := by decide +kernel
theorem dX10_beginsExpression_11 : decode cX10_beginsExpression 11 = .ok (.getfield 73, 3) := by decide +kernel
theorem dX10_beginsExpression_14 : decode cX10_beginsExpression 14 = .ok (.sipush 215, 3) := by decide +kernel
theorem dX10_beginsExpression_17 : decode cX10_beginsExpression 17 = .ok (.if_icmp .eq 20, 3) := by decide +kernel
theorem dX10_beginsExpression_20 : decode cX10_beginsExpression 20 = .ok (.aload_n 0, 1) := by decide +kernel
theorem dX10_beginsExpression_21 : decode cX10_beginsExpression 21 = .ok (.getfield 73, 3) := by decide +kernel
theorem dX10_beginsExpression_24 : decode cX10_beginsExpression 24 = .ok (.sipush 218, 3) := by decide +kernel
theorem dX10_beginsExpression_27 : decode cX10_beginsExpression 27 = .ok (.if_icmp .eq 10, 3) := by decide +kernel
theorem dX10_beginsExpression_30 : decode cX10_beginsExpression 30 = .ok (.aload_n 0, 1) := by decide +kernel
theorem dX10_beginsExpression_31 : decode cX10_beginsExpression 31 = .ok (.invokevirtual 98, 3) := by decide +kernel
theorem dX10_beginsExpression_34 : decode cX10_beginsExpression 34 = .ok (.ifCond .eq 7, 3) := by decide +kernel
theorem dX10_beginsExpression_37 : decode cX10_beginsExpression 37 = .ok (.iconst 1, 1) := by decide +kernel
theorem dX10_beginsExpression_38 : decode cX10_beginsExpression 38 = .ok (.goto 4, 3) := by decide +kernel
theorem dX10_beginsExpression_41 : decode cX10_beginsExpression 41 = .ok (.iconst 0, 1) := by decide +kernel
theorem dX10_beginsExpression_42 : decode cX10_beginsExpression 42 = .ok (.ireturn, 1) := by decide +kernel
theorem dX10_stepCharAt_0 : decode cX10_stepCharAt 0 = .ok (.aload_n 0, 1) := by decide +kernel
theorem dX10_stepCharAt_1 : decode cX10_stepCharAt 1 = .ok (.iload_n 1, 1) := by decide +kernel
theorem dX10_stepCharAt_2 : decode cX10_stepCharAt 2 = .ok (.invokevirtual 101, 3) := by decide +kernel
theorem dX10_stepCharAt_5 : decode cX10_stepCharAt 5 = .ok (.istore_n 2, 1) := by decide +kernel
theorem dX10_stepCharAt_6 : decode cX10_stepCharAt 6 = .ok (.iload_n 2, 1) := by decide +kernel
theorem dX10_stepCharAt_7 : decode cX10_stepCharAt 7 = .ok (.invokestatic 104, 3) := by decide +kernel
theorem dX10_stepCharAt_10 : decode cX10_stepCharAt 10 = .ok (.ifCond .ne 10, 3) := by decide +kernel
theorem dX10_stepCharAt_13 : decode cX10_stepCharAt 13 = .ok (.iload_n 2, 1) := by decide +kernel
theorem dX10_stepCharAt_14 : decode cX10_stepCharAt 14 = .ok (.invokestatic 108, 3) := by decide +kernel
theorem dX10_stepCharAt_17 : decode cX10_stepCharAt 17 = .ok (.ifCond .eq 7, 3) := by decide +kernel
theorem dX10_stepCharAt_20 : decode cX10_stepCharAt 20 = .ok (.iconst 1, 1) := by decide +kernel
theorem dX10_stepCharAt_21 : decode cX10_stepCharAt 21 = .ok (.goto 4, 3) := by decide +kernel
theorem dX10_stepCharAt_24 : decode cX10_stepCharAt 24 = .ok (.iconst 0, 1) := by decide +kernel
theorem dX10_stepCharAt_25 : decode cX10_stepCharAt 25 = .ok (.ireturn, 1) := by decide +kernel
theorem dX10_findName_0 : decode cX10_findName 0 = .ok (.aload_n 0, 1) := by decide +kernel
theorem dX10_findName_1 : decode cX10_findName 1 = .ok (.getfield 53, 3) := by decide +kernel
theorem dX10_findName_4 : decode cX10_findName 4 = .ok (.istore_n 1, 1) := by decide +kernel
theorem dX10_findName_5 : decode cX10_findName 5 = .ok (.lconst 0, 1) := by decide +kernel
theorem dX10_findName_6 : decode cX10_findName 6 = .ok (.lstore_n 2, 1) := by decide +kernel
theorem dX10_findName_7 : decode cX10_findName 7 = .ok (.aload_n 0, 1) := by decide +kernel
theorem dX10_findName_8 : decode cX10_findName 8 = .ok (.getfield 53, 3) := by decide +kernel
theorem dX10_findName_11 : decode cX10_findName 11 = .ok (.aload_n 0, 1) := by decide +kernel
theorem dX10_findName_12 : decode cX10_findName 12 = .ok (.getfield 47, 3) := by decide +kernel
theorem dX10_findName_15 : decode cX10_findName 15 = .ok (.if_icmp .ge 40, 3) := by decide +kernel
theorem dX10_findName_18 : decode cX10_findName 18 = .ok (.aload_n 0, 1) := by decide +kernel
theorem dX10_findName_19 : decode cX10_findName 19 = .ok (.aload_n 0, 1) := by decide +kernel
theorem dX10_findName_20 : decode cX10_findName 20 = .ok (.getfield 53, 3) := by decide +kernel
theorem dX10_findName_23 : decode cX10_findName 23 = .ok (.invokevirtual 136, 3) := by decide +kernel
theorem dX10_findName_26 : decode cX10_findName 26 = .ok (.ifCond .eq 29, 3) := by decide +kernel
theorem dX10_findName_29 : decode cX10_findName 29 = .ok (.lload_n 2, 1) := by decide +kernel
theorem dX10_findName_30 : decode cX10_findName 30 = .ok (.aload_n 0, 1) := by decide +kernel
theorem dX10_findName_31 : decode cX10_findName 31 = .ok (.aload_n 0, 1) := by decide +kernel
theorem dX10_findName_32 : decode cX10_findName 32 = .ok (.getfield 53, 3) := by decide +kernel
theorem dX10_findName_35 : decode cX10_findName 35 = .ok (.invokevirtual 101, 3) := by decide +kernel
theorem dX10_findName_38 : decode cX10_findName 38 = .ok (.invokestatic 43, 3) := by decide +kernel
theorem dX10_findName_41 : decode cX10_findName 41 = .ok (.lstore_n 2, 1) := by decide +kernel
theorem dX10_findName_42 : decode cX10_findName 42 = .ok (.aload_n 0, 1) := by decide +kernel
theorem dX10_findName_43 : decode cX10_findName 43 = .ok (.dup, 1) := by decide +kernel
theorem dX10_findName_44 : decode cX10_findName 44 = .ok (.getfield 53, 3) := by decide +kernel
theorem dX10_findName_47 : decode cX10_findName 47 = .ok (.iconst 1, 1) := by decide +kernel
theorem dX10_findName_48 : decode cX10_findName 48 = .ok (.iadd, 1) := by decide +kernel
theorem dX10_findName_49 : decode cX10_findName 49 = .ok (.putfield 53, 3) := by decide +kernel
theorem dX10_findName_52 : decode cX10_findName 52 = .ok (.goto (-45), 3) := by decide +kernel
theorem dX10_findName_55 : decode cX10_findName 55 = .ok (.iconst 2, 1) := by decide +kernel
theorem dX10_findName_56 : decode cX10_findName 56 = .ok (.istore 4, 2) := by decide +kernel
theorem dX10_findName_58 : decode cX10_findName 58 = .ok (.iconst 0, 1) := by decide +kernel
theorem dX10_findName_59 : decode cX10_findName 59 = .ok (.istore 5, 2) := by decide +kernel
theorem dX10_findName_61 : decode cX10_findName 61 = .ok (.iload 5, 2) := by decide +kernel
theorem dX10_findName_63 : decode cX10_findName 63 = .ok (.bipush 23, 2) := by decide +kernel
theorem dX10_findName_65 : decode cX10_findName 65 = .ok (.if_icmp .ge 34, 3) := by decide +kernel
theorem dX10_findName_68 : decode cX10_findName 68 = .ok (.aload_n 0, 1) := by decide +kernel
theorem dX10_findName_69 : decode cX10_findName 69 = .ok (.getfield 11, 3) := by decide +kernel
theorem dX10_findName_72 : decode cX10_findName 72 = .ok (.iload 5, 2) := by decide +kernel
theorem dX10_findName_74 : decode cX10_findName 74 = .ok (.laload, 1) := by decide +kernel
theorem dX10_findName_75 : decode cX10_findName 75 = .ok (.lload_n 2, 1) := by decide +kernel
theorem dX10_findName_76 : decode cX10_findName 76 = .ok (.lcmp, 1) := by decide +kernel
theorem dX10_findName_77 : decode cX10_findName 77 = .ok (.ifCond .ne 12, 3) := by decide +kernel
theorem dX10_findName_80 : decode cX10_findName 80 = .ok (.sipush 210, 3) := by decide +kernel
theorem dX10_findName_83 : decode cX10_findName 83 = .ok (.iload 5, 2) := by decide +kernel
theorem dX10_findName_85 : decode cX10_findName 85 = .ok (.iadd, 1) := by decide +kernel
theorem dX10_findName_86 : decode cX10_findName 86 = .ok (.goto 5, 3) := by decide +kernel
theorem dX10_findName_89 : decode cX10_findName 89 = .ok (.iload 4, 2) := by decide +kernel
theorem dX10_findName_91 : decode cX10_findName 91 = .ok (.istore 4, 2) := by decide +kernel
theorem dX10_findName_93 : decode cX10_findName 93 = .ok (.iinc 5 1, 3) := by decide +kernel
theorem dX10_findName_96 : decode cX10_findName 96 = .ok (.goto (-35), 3) := by decide +kernel
theorem dX10_findName_99 : decode cX10_findName 99 = .ok (.aload_n 0, 1) := by decide +kernel
theorem dX10_findName_100 : decode cX10_findName 100 = .ok (.aload_n 0, 1) := by decide +kernel
theorem dX10_findName_101 : decode cX10_findName 101 = .ok (.getfield 53, 3) := by decide +kernel
theorem dX10_findName_104 : decode cX10_findName 104 = .ok (.iload_n 1, 1) := by decide +kernel
theorem dX10_findName_105 : decode cX10_findName 105 = .ok (.isub, 1) := by decide +kernel
theorem dX10_findName_106 : decode cX10_findName 106 = .ok (.bipush 8, 2) := by decide +kernel
theorem dX10_findName_108 : decode cX10_findName 108 = .ok (.if_icmp .le 7, 3) := by decide +kernel
theorem dX10_findName_111 : decode cX10_findName 111 = .ok (.iconst 1, 1) := by decide +kernel
theorem dX10_findName_112 : decode cX10_findName 112 = .ok (.goto 5, 3) := by decide +kernel
theorem dX10_findName_115 : decode cX10_findName 115 = .ok (.iload 4, 2) := by decide +kernel
theorem dX10_findName_117 : decode cX10_findName 117 = .ok (.iload_n 1, 1) := by decide +kernel
theorem dX10_findName_118 : decode cX10_findName 118 = .ok (.lload_n 2, 1) := by decide +kernel
theorem dX10_findName_119 : decode cX10_findName 119 = .ok (.invokevirtual 117, 3) := by decide +kernel
theorem dX10_findName_122 : decode cX10_findName 122 = .ok (.return_, 1) := by decide +kernel
theorem dX10_findNumber_0 : decode cX10_findNumber 0 = .ok (.aload_n 0, 1) := by decide +kernel
theorem dX10_findNumber_1 : decode cX10_findNumber 1 = .ok (.getfield 53, 3) := by decide +kernel
theorem dX10_findNumber_4 : decode cX10_findNumber 4 = .ok (.istore_n 1, 1) := by decide +kernel
theorem dX10_findNumber_5 : decode cX10_findNumber 5 = .ok (.lconst 0, 1) := by decide +kernel
theorem dX10_findNumber_6 : decode cX10_findNumber 6 = .ok (.lstore_n 2, 1) := by decide +kernel
theorem dX10_findNumber_7 : decode cX10_findNumber 7 = .ok (.aload_n 0, 1) := by decide +kernel
theorem dX10_findNumber_8 : decode cX10_findNumber 8 = .ok (.getfield 53, 3) := by decide +kernel
theorem dX10_findNumber_11 : decode cX10_findNumber 11 = .ok (.aload_n 0, 1) := by decide +kernel
theorem dX10_findNumber_12 : decode cX10_findNumber 12 = .ok (.getfield 47, 3) := by decide +kernel
theorem dX10_findNumber_15 : decode cX10_findNumber 15 = .ok (.if_icmp .ge 57, 3) := by decide +kernel
theorem dX10_findNumber_18 : decode cX10_findNumber 18 = .ok (.aload_n 0, 1) := by decide +kernel
theorem dX10_findNumber_19 : decode cX10_findNumber 19 = .ok (.aload_n 0, 1) := by decide +kernel
theorem dX10_findNumber_20 : decode cX10_findNumber 20 = .ok (.getfield 53, 3) := by decide +kernel
theorem dX10_findNumber_23 : decode cX10_findNumber 23 = .ok (.invokevirtual 101, 3) := by decide +kernel
theorem dX10_findNumber_26 : decode cX10_findNumber 26 = .ok (.invokestatic 108, 3) := by decide +kernel
theorem dX10_findNumber_29 : decode cX10_findNumber 29 = .ok (.ifCond .eq 43, 3) := by decide +kernel
theorem dX10_findNumber_32 : decode cX10_findNumber 32 = .ok (.lload_n 2, 1) := by decide +kernel
theorem dX10_findNumber_33 : decode cX10_findNumber 33 = .ok (.ldc2_w 139, 3) := by decide +kernel
theorem dX10_findNumber_36 : decode cX10_findNumber 36 = .ok (.lcmp, 1) := by decide +kernel
theorem dX10_findNumber_37 : decode cX10_findNumber 37 = .ok (.ifCond .gt 22, 3) := by decide +kernel
theorem dX10_findNumber_40 : decode cX10_findNumber 40 = .ok (.lload_n 2, 1) := by decide +kernel
theorem dX10_findNumber_41 : decode cX10_findNumber 41 = .ok (.ldc2_w 141, 3) := by decide +kernel
theorem dX10_findNumber_44 : decode cX10_findNumber 44 = .ok (.lmul, 1) := by decide +kernel
theorem dX10_findNumber_45 : decode cX10_findNumber 45 = .ok (.aload_n 0, 1) := by decide +kernel
theorem dX10_findNumber_46 : decode cX10_findNumber 46 = .ok (.aload_n 0, 1) := by decide +kernel
theorem dX10_findNumber_47 : decode cX10_findNumber 47 = .ok (.getfield 53, 3) := by decide +kernel
theorem dX10_findNumber_50 : decode cX10_findNumber 50 = .ok (.invokevirtual 101, 3) := by decide +kernel
theorem dX10_findNumber_53 : decode cX10_findNumber 53 = .ok (.bipush 48, 2) := by decide +kernel
theorem dX10_findNumber_55 : decode cX10_findNumber 55 = .ok (.isub, 1) := by decide +kernel
theorem dX10_findNumber_56 : decode cX10_findNumber 56 = .ok (.i2l, 1) := by decide +kernel
theorem dX10_findNumber_57 : decode cX10_findNumber 57 = .ok (.ladd, 1) := by decide +kernel
theorem dX10_findNumber_58 : decode cX10_findNumber 58 = .ok (.lstore_n 2, 1) := by decide +kernel
theorem dX10_findNumber_59 : decode cX10_findNumber 59 = .ok (.aload_n 0, 1) := by decide +kernel
theorem dX10_findNumber_60 : decode cX10_findNumber 60 = .ok (.dup, 1) := by decide +kernel
theorem dX10_findNumber_61 : decode cX10_findNumber 61 = .ok (.getfield 53, 3) := by decide +kernel
theorem dX10_findNumber_64 : decode cX10_findNumber 64 = .ok (.iconst 1, 1) := by decide +kernel
theorem dX10_findNumber_65 : decode cX10_findNumber 65 = .ok (.iadd, 1) := by decide +kernel
theorem dX10_findNumber_66 : decode cX10_findNumber 66 = .ok (.putfield 53, 3) := by decide +kernel
theorem dX10_findNumber_69 : decode cX10_findNumber 69 = .ok (.goto (-62), 3) := by decide +kernel
theorem dX10_findNumber_72 : decode cX10_findNumber 72 = .ok (.aload_n 0, 1) := by decide +kernel
theorem dX10_findNumber_73 : decode cX10_findNumber 73 = .ok (.lload_n 2, 1) := by decide +kernel
theorem dX10_findNumber_74 : decode cX10_findNumber 74 = .ok (.ldc2_w 139, 3) := by decide +kernel
theorem dX10_findNumber_77 : decode cX10_findNumber 77 = .ok (.lcmp, 1) := by decide +kernel
theorem dX10_findNumber_78 : decode cX10_findNumber 78 = .ok (.ifCond .le 7, 3) := by decide +kernel
theorem dX10_findNumber_81 : decode cX10_findNumber 81 = .ok (.iconst 1, 1) := by decide +kernel
theorem dX10_findNumber_82 : decode cX10_findNumber 82 = .ok (.goto 4, 3) := by decide +kernel
theorem dX10_findNumber_85 : decode cX10_findNumber 85 = .ok (.iconst 3, 1) := by decide +kernel
theorem dX10_findNumber_86 : decode cX10_findNumber 86 = .ok (.iload_n 1, 1) := by decide +kernel
theorem dX10_findNumber_87 : decode cX10_findNumber 87 = .ok (.lload_n 2, 1) := by decide +kernel
theorem dX10_findNumber_88 : decode cX10_findNumber 88 = .ok (.invokevirtual 117, 3) := by decide +kernel
theorem dX10_findNumber_91 : decode cX10_findNumber 91 = .ok (.return_, 1) := by decide +kernel
theorem dX10_findPattern_0 : decode cX10_findPattern 0 = .ok (.aload_n 0, 1) := by decide +kernel
theorem dX10_findPattern_1 : decode cX10_findPattern 1 = .ok (.getfield 53, 3) := by decide +kernel
theorem dX10_findPattern_4 : decode cX10_findPattern 4 = .ok (.istore_n 1, 1) := by decide +kernel
theorem dX10_findPattern_5 : decode cX10_findPattern 5 = .ok (.aload_n 0, 1) := by decide +kernel
theorem dX10_findPattern_6 : decode cX10_findPattern 6 = .ok (.getfield 24, 3) := by decide +kernel
theorem dX10_findPattern_9 : decode cX10_findPattern 9 = .ok (.getfield 133, 3) := by decide +kernel
theorem dX10_findPattern_12 : decode cX10_findPattern 12 = .ok (.istore_n 2, 1) := by decide +kernel
theorem dX10_findPattern_13 : decode cX10_findPattern 13 = .ok (.iconst 0, 1) := by decide +kernel
theorem dX10_findPattern_14 : decode cX10_findPattern 14 = .ok (.istore_n 3, 1) := by decide +kernel
theorem dX10_findPattern_15 : decode cX10_findPattern 15 = .ok (.iconst 1, 1) := by decide +kernel
theorem dX10_findPattern_16 : decode cX10_findPattern 16 = .ok (.istore 4, 2) := by decide +kernel
theorem dX10_findPattern_18 : decode cX10_findPattern 18 = .ok (.aload_n 0, 1) := by decide +kernel
theorem dX10_findPattern_19 : decode cX10_findPattern 19 = .ok (.getfield 24, 3) := by decide +kernel
theorem dX10_findPattern_22 : decode cX10_findPattern 22 = .ok (.lconst 0, 1) := by decide +kernel
theorem dX10_findPattern_23 : decode cX10_findPattern 23 = .ok (.invokevirtual 111, 3) := by decide +kernel
theorem dX10_findPattern_26 : decode cX10_findPattern 26 = .ok (.aload_n 0, 1) := by decide +kernel
theorem dX10_findPattern_27 : decode cX10_findPattern 27 = .ok (.getfield 24, 3) := by decide +kernel
theorem dX10_findPattern_30 : decode cX10_findPattern 30 = .ok (.lconst 0, 1) := by decide +kernel
theorem dX10_findPattern_31 : decode cX10_findPattern 31 = .ok (.invokevirtual 111, 3) := by decide +kernel
theorem dX10_findPattern_34 : decode cX10_findPattern 34 = .ok (.iload_n 3, 1) := by decide +kernel
theorem dX10_findPattern_35 : decode cX10_findPattern 35 = .ok (.sipush 3000, 3) := by decide +kernel
theorem dX10_findPattern_38 : decode cX10_findPattern 38 = .ok (.if_icmp .ge 54, 3) := by decide +kernel
theorem dX10_findPattern_41 : decode cX10_findPattern 41 = .ok (.aload_n 0, 1) := by decide +kernel
theorem dX10_findPattern_42 : decode cX10_findPattern 42 = .ok (.aload_n 0, 1) := by decide +kernel
theorem dX10_findPattern_43 : decode cX10_findPattern 43 = .ok (.getfield 53, 3) := by decide +kernel
theorem dX10_findPattern_46 : decode cX10_findPattern 46 = .ok (.invokevirtual 101, 3) := by decide +kernel
theorem dX10_findPattern_49 : decode cX10_findPattern 49 = .ok (.bipush 47, 2) := by decide +kernel
theorem dX10_findPattern_51 : decode cX10_findPattern 51 = .ok (.if_icmp .ne 41, 3) := by decide +kernel
theorem dX10_findPattern_54 : decode cX10_findPattern 54 = .ok (.aload_n 0, 1) := by decide +kernel
theorem dX10_findPattern_55 : decode cX10_findPattern 55 = .ok (.aload_n 0, 1) := by decide +kernel
theorem dX10_findPattern_56 : decode cX10_findPattern 56 = .ok (.getfield 53, 3) := by decide +kernel
theorem dX10_findPattern_59 : decode cX10_findPattern 59 = .ok (.iconst 1, 1) := by decide +kernel
theorem dX10_findPattern_60 : decode cX10_findPattern 60 = .ok (.iadd, 1) := by decide +kernel
theorem dX10_findPattern_61 : decode cX10_findPattern 61 = .ok (.invokevirtual 136, 3) := by decide +kernel
theorem dX10_findPattern_64 : decode cX10_findPattern 64 = .ok (.ifCond .eq 28, 3) := by decide +kernel
theorem dX10_findPattern_67 : decode cX10_findPattern 67 = .ok (.iinc 3 1, 3) := by decide +kernel
theorem dX10_findPattern_70 : decode cX10_findPattern 70 = .ok (.aload_n 0, 1) := by decide +kernel
theorem dX10_findPattern_71 : decode cX10_findPattern 71 = .ok (.invokevirtual 143, 3) := by decide +kernel
theorem dX10_findPattern_74 : decode cX10_findPattern 74 = .ok (.ifCond .eq 12, 3) := by decide +kernel
theorem dX10_findPattern_77 : decode cX10_findPattern 77 = .ok (.iload 4, 2) := by decide +kernel
theorem dX10_findPattern_79 : decode cX10_findPattern 79 = .ok (.ifCond .eq 7, 3) := by decide +kernel
theorem dX10_findPattern_82 : decode cX10_findPattern 82 = .ok (.iconst 1, 1) := by decide +kernel
theorem dX10_findPattern_83 : decode cX10_findPattern 83 = .ok (.goto 4, 3) := by decide +kernel
theorem dX10_findPattern_86 : decode cX10_findPattern 86 = .ok (.iconst 0, 1) := by decide +kernel
theorem dX10_findPattern_87 : decode cX10_findPattern 87 = .ok (.istore 4, 2) := by decide +kernel
theorem dX10_findPattern_89 : decode cX10_findPattern 89 = .ok (.goto (-55), 3) := by decide +kernel
theorem dX10_findPattern_92 : decode cX10_findPattern 92 = .ok (.aload_n 0, 1) := by decide +kernel
theorem dX10_findPattern_93 : decode cX10_findPattern 93 = .ok (.getfield 24, 3) := by decide +kernel
theorem dX10_findPattern_96 : decode cX10_findPattern 96 = .ok (.iload_n 2, 1) := by decide +kernel
theorem dX10_findPattern_97 : decode cX10_findPattern 97 = .ok (.iload_n 3, 1) := by decide +kernel
theorem dX10_findPattern_98 : decode cX10_findPattern 98 = .ok (.i2l, 1) := by decide +kernel
theorem dX10_findPattern_99 : decode cX10_findPattern 99 = .ok (.invokevirtual 146, 3) := by decide +kernel
theorem dX10_findPattern_102 : decode cX10_findPattern 102 = .ok (.aload_n 0, 1) := by decide +kernel
theorem dX10_findPattern_103 : decode cX10_findPattern 103 = .ok (.aload_n 0, 1) := by decide +kernel
theorem dX10_findPattern_104 : decode cX10_findPattern 104 = .ok (.getfield 53, 3) := by decide +kernel
theorem dX10_findPattern_107 : decode cX10_findPattern 107 = .ok (.iconst 1, 1) := by decide +kernel
theorem dX10_findPattern_108 : decode cX10_findPattern 108 = .ok (.iadd, 1) := by decide +kernel
theorem dX10_findPattern_109 : decode cX10_findPattern 109 = .ok (.invokevirtual 101, 3) := by decide +kernel
theorem dX10_findPattern_112 : decode cX10_findPattern 112 = .ok (.istore 5, 2) := by decide +kernel
theorem dX10_findPattern_114 : decode cX10_findPattern 114 = .ok (.aload_n 0, 1) := by decide +kernel
theorem dX10_findPattern_115 : decode cX10_findPattern 115 = .ok (.aload_n 0, 1) := by decide +kernel
theorem dX10_findPattern_116 : decode cX10_findPattern 116 = .ok (.getfield 53, 3) := by decide +kernel
theorem dX10_findPattern_119 : decode cX10_findPattern 119 = .ok (.invokevirtual 101, 3) := by decide +kernel
theorem dX10_findPattern_122 : decode cX10_findPattern 122 = .ok (.bipush 47, 2) := by decide +kernel
theorem dX10_findPattern_124 : decode cX10_findPattern 124 = .ok (.if_icmp .ne 54, 3) := by decide +kernel
theorem dX10_findPattern_127 : decode cX10_findPattern 127 = .ok (.iload 5, 2) := by decide +kernel
theorem dX10_findPattern_129 : decode cX10_findPattern 129 = .ok (.bipush 42, 2) := by decide +kernel
theorem dX10_findPattern_131 : decode cX10_findPattern 131 = .ok (.if_icmp .eq 10, 3) := by decide +kernel
theorem dX10_findPattern_134 : decode cX10_findPattern 134 = .ok (.iload 5, 2) := by decide +kernel
theorem dX10_findPattern_136 : decode cX10_findPattern 136 = .ok (.bipush 45, 2) := by decide +kernel
theorem dX10_findPattern_138 : decode cX10_findPattern 138 = .ok (.if_icmp .ne 40, 3) := by decide +kernel
theorem dX10_findPattern_141 : decode cX10_findPattern 141 = .ok (.aload_n 0, 1) := by decide +kernel
theorem dX10_findPattern_142 : decode cX10_findPattern 142 = .ok (.getfield 24, 3) := by decide +kernel
theorem dX10_findPattern_145 : decode cX10_findPattern 145 = .ok (.iload_n 2, 1) := by decide +kernel
theorem dX10_findPattern_146 : decode cX10_findPattern 146 = .ok (.iconst 1, 1) := by decide +kernel
theorem dX10_findPattern_147 : decode cX10_findPattern 147 = .ok (.iadd, 1) := by decide +kernel
theorem dX10_findPattern_148 : decode cX10_findPattern 148 = .ok (.iload 5, 2) := by decide +kernel
theorem dX10_findPattern_150 : decode cX10_findPattern 150 = .ok (.bipush 42, 2) := by decide +kernel
theorem dX10_findPattern_152 : decode cX10_findPattern 152 = .ok (.if_icmp .ne 7, 3) := by decide +kernel
theorem dX10_findPattern_155 : decode cX10_findPattern 155 = .ok (.lconst 1, 1) := by decide +kernel
theorem dX10_findPattern_156 : decode cX10_findPattern 156 = .ok (.goto 6, 3) := by decide +kernel
theorem dX10_findPattern_159 : decode cX10_findPattern 159 = .ok (.ldc2_w 150, 3) := by decide +kernel
theorem dX10_findPattern_162 : decode cX10_findPattern 162 = .ok (.invokevirtual 146, 3) := by decide +kernel
theorem dX10_findPattern_165 : decode cX10_findPattern 165 = .ok (.aload_n 0, 1) := by decide +kernel
theorem dX10_findPattern_166 : decode cX10_findPattern 166 = .ok (.dup, 1) := by decide +kernel
theorem dX10_findPattern_167 : decode cX10_findPattern 167 = .ok (.getfield 53, 3) := by decide +kernel
theorem dX10_findPattern_170 : decode cX10_findPattern 170 = .ok (.iconst 2, 1) := by decide +kernel
theorem dX10_findPattern_171 : decode cX10_findPattern 171 = .ok (.iadd, 1) := by decide +kernel
theorem dX10_findPattern_172 : decode cX10_findPattern 172 = .ok (.putfield 53, 3) := by decide +kernel
theorem dX10_findPattern_175 : decode cX10_findPattern 175 = .ok (.goto 10, 3) := by decide +kernel
theorem dX10_findPattern_178 : decode cX10_findPattern 178 = .ok (.iload_n 3, 1) := by decide +kernel
theorem dX10_findPattern_179 : decode cX10_findPattern 179 = .ok (.ifCond .ne 6, 3) := by decide +kernel
theorem dX10_findPattern_182 : decode cX10_findPattern 182 = .ok (.iconst 0, 1) := by decide +kernel
theorem dX10_findPattern_183 : decode cX10_findPattern 183 = .ok (.istore 4, 2) := by decide +kernel
theorem dX10_findPattern_185 : decode cX10_findPattern 185 = .ok (.aload_n 0, 1) := by decide +kernel
theorem dX10_findPattern_186 : decode cX10_findPattern 186 = .ok (.iload 4, 2) := by decide +kernel
theorem dX10_findPattern_188 : decode cX10_findPattern 188 = .ok (.ifCond .eq 15, 3) := by decide +kernel
theorem dX10_findPattern_191 : decode cX10_findPattern 191 = .ok (.iload_n 3, 1) := by decide +kernel
theorem dX10_findPattern_192 : decode cX10_findPattern 192 = .ok (.aload_n 0, 1) := by decide +kernel
theorem dX10_findPattern_193 : decode cX10_findPattern 193 = .ok (.getfield 50, 3) := by decide +kernel
theorem dX10_findPattern_196 : decode cX10_findPattern 196 = .ok (.if_icmp .gt 7, 3) := by decide +kernel
theorem dX10_findPattern_199 : decode cX10_findPattern 199 = .ok (.iconst 4, 1) := by decide +kernel
theorem dX10_findPattern_200 : decode cX10_findPattern 200 = .ok (.goto 4, 3) := by decide +kernel
theorem dX10_findPattern_203 : decode cX10_findPattern 203 = .ok (.iconst 1, 1) := by decide +kernel
theorem dX10_findPattern_204 : decode cX10_findPattern 204 = .ok (.iload_n 1, 1) := by decide +kernel
theorem dX10_findPattern_205 : decode cX10_findPattern 205 = .ok (.iload_n 2, 1) := by decide +kernel
theorem dX10_findPattern_206 : decode cX10_findPattern 206 = .ok (.i2l, 1) := by decide +kernel
theorem dX10_findPattern_207 : decode cX10_findPattern 207 = .ok (.invokevirtual 117, 3) := by decide +kernel
theorem dX10_findPattern_210 : decode cX10_findPattern 210 = .ok (.return_, 1) := by decide +kernel
theorem dX10_findStep_0 : decode cX10_findStep 0 = .ok (.aload_n 0, 1) := by decide +kernel
theorem dX10_findStep_1 : decode cX10_findStep 1 = .ok (.getfield 53, 3) := by decide +kernel
theorem dX10_findStep_4 : decode cX10_findStep 4 = .ok (.iconst 1, 1) := by decide +kernel
theorem dX10_findStep_5 : decode cX10_findStep 5 = .ok (.iadd, 1) := by decide +kernel
theorem dX10_findStep_6 : decode cX10_findStep 6 = .ok (.istore_n 1, 1) := by decide +kernel
theorem dX10_findStep_7 : decode cX10_findStep 7 = .ok (.lconst 0, 1) := by decide +kernel
theorem dX10_findStep_8 : decode cX10_findStep 8 = .ok (.lstore_n 2, 1) := by decide +kernel
theorem dX10_findStep_9 : decode cX10_findStep 9 = .ok (.aload_n 0, 1) := by decide +kernel
theorem dX10_findStep_10 : decode cX10_findStep 10 = .ok (.iload_n 1, 1) := by decide +kernel
theorem dX10_findStep_11 : decode cX10_findStep 11 = .ok (.putfield 53, 3) := by decide +kernel
theorem dX10_findStep_14 : decode cX10_findStep 14 = .ok (.aload_n 0, 1) := by decide +kernel
theorem dX10_findStep_15 : decode cX10_findStep 15 = .ok (.getfield 53, 3) := by decide +kernel
theorem dX10_findStep_18 : decode cX10_findStep 18 = .ok (.aload_n 0, 1) := by decide +kernel
theorem dX10_findStep_19 : decode cX10_findStep 19 = .ok (.getfield 47, 3) := by decide +kernel
theorem dX10_findStep_22 : decode cX10_findStep 22 = .ok (.if_icmp .ge 40, 3) := by decide +kernel
theorem dX10_findStep_25 : decode cX10_findStep 25 = .ok (.aload_n 0, 1) := by decide +kernel
theorem dX10_findStep_26 : decode cX10_findStep 26 = .ok (.aload_n 0, 1) := by decide +kernel
theorem dX10_findStep_27 : decode cX10_findStep 27 = .ok (.getfield 53, 3) := by decide +kernel
theorem dX10_findStep_30 : decode cX10_findStep 30 = .ok (.invokevirtual 136, 3) := by decide +kernel
theorem dX10_findStep_33 : decode cX10_findStep 33 = .ok (.ifCond .eq 29, 3) := by decide +kernel
theorem dX10_findStep_36 : decode cX10_findStep 36 = .ok (.lload_n 2, 1) := by decide +kernel
theorem dX10_findStep_37 : decode cX10_findStep 37 = .ok (.aload_n 0, 1) := by decide +kernel
theorem dX10_findStep_38 : decode cX10_findStep 38 = .ok (.aload_n 0, 1) := by decide +kernel
theorem dX10_findStep_39 : decode cX10_findStep 39 = .ok (.getfield 53, 3) := by decide +kernel
theorem dX10_findStep_42 : decode cX10_findStep 42 = .ok (.invokevirtual 101, 3) := by decide +kernel
theorem dX10_findStep_45 : decode cX10_findStep 45 = .ok (.invokestatic 43, 3) := by decide +kernel
theorem dX10_findStep_48 : decode cX10_findStep 48 = .ok (.lstore_n 2, 1) := by decide +kernel
theorem dX10_findStep_49 : decode cX10_findStep 49 = .ok (.aload_n 0, 1) := by decide +kernel
theorem dX10_findStep_50 : decode cX10_findStep 50 = .ok (.dup, 1) := by decide +kernel
theorem dX10_findStep_51 : decode cX10_findStep 51 = .ok (.getfield 53, 3) := by decide +kernel
theorem dX10_findStep_54 : decode cX10_findStep 54 = .ok (.iconst 1, 1) := by decide +kernel
theorem dX10_findStep_55 : decode cX10_findStep 55 = .ok (.iadd, 1) := by decide +kernel
theorem dX10_findStep_56 : decode cX10_findStep 56 = .ok (.putfield 53, 3) := by decide +kernel
theorem dX10_findStep_59 : decode cX10_findStep 59 = .ok (.goto (-45), 3) := by decide +kernel
theorem dX10_findStep_62 : decode cX10_findStep 62 = .ok (.aload_n 0, 1) := by decide +kernel
theorem dX10_findStep_63 : decode cX10_findStep 63 = .ok (.getfield 24, 3) := by decide +kernel
theorem dX10_findStep_66 : decode cX10_findStep 66 = .ok (.lload_n 2, 1) := by decide +kernel
theorem dX10_findStep_67 : decode cX10_findStep 67 = .ok (.invokevirtual 111, 3) := by decide +kernel
theorem dX10_findStep_70 : decode cX10_findStep 70 = .ok (.aload_n 0, 1) := by decide +kernel
theorem dX10_findStep_71 : decode cX10_findStep 71 = .ok (.getfield 53, 3) := by decide +kernel
theorem dX10_findStep_74 : decode cX10_findStep 74 = .ok (.iload_n 1, 1) := by decide +kernel
theorem dX10_findStep_75 : decode cX10_findStep 75 = .ok (.isub, 1) := by decide +kernel
theorem dX10_findStep_76 : decode cX10_findStep 76 = .ok (.bipush 6, 2) := by decide +kernel
theorem dX10_findStep_78 : decode cX10_findStep 78 = .ok (.if_icmp .gt 7, 3) := by decide +kernel
theorem dX10_findStep_81 : decode cX10_findStep 81 = .ok (.iconst 1, 1) := by decide +kernel
theorem dX10_findStep_82 : decode cX10_findStep 82 = .ok (.goto 4, 3) := by decide +kernel
theorem dX10_findStep_85 : decode cX10_findStep 85 = .ok (.iconst 0, 1) := by decide +kernel
theorem dX10_findStep_86 : decode cX10_findStep 86 = .ok (.ireturn, 1) := by decide +kernel
theorem dX10_findSign_0 : decode cX10_findSign 0 = .ok (.aload_n 0, 1) := by decide +kernel
theorem dX10_findSign_1 : decode cX10_findSign 1 = .ok (.getfield 53, 3) := by decide +kernel
theorem dX10_findSign_4 : decode cX10_findSign 4 = .ok (.istore_n 2, 1) := by decide +kernel
theorem dX10_findSign_5 : decode cX10_findSign 5 = .ok (.iload_n 1, 1) := by decide +kernel
theorem dX10_findSign_6 : decode cX10_findSign 6 = .ok (.bipush 127, 2) := by decide +kernel
theorem dX10_findSign_8 : decode cX10_findSign 8 = .ok (.if_icmp .ge 17, 3) := by decide +kernel
theorem dX10_findSign_11 : decode cX10_findSign 11 = .ok (.ldc 152, 2) := by decide +kernel
theorem dX10_findSign_13 : decode cX10_findSign 13 = .ok (.iload_n 1, 1) := by decide +kernel
theorem dX10_findSign_14 : decode cX10_findSign 14 = .ok (.i2c, 1) := by decide +kernel
theorem dX10_findSign_15 : decode cX10_findSign 15 = .ok (.invokevirtual 154, 3) := by decide +kernel
theorem dX10_findSign_18 : decode cX10_findSign 18 = .ok (.ifCond .lt 7, 3) := by decide +kernel
theorem dX10_findSign_21 : decode cX10_findSign 21 = .ok (.iload_n 1, 1) := by decide +kernel
theorem dX10_findSign_22 : decode cX10_findSign 22 = .ok (.goto 4, 3) := by decide +kernel
theorem dX10_findSign_25 : decode cX10_findSign 25 = .ok (.iconst 1, 1) := by decide +kernel
theorem dX10_findSign_26 : decode cX10_findSign 26 = .ok (.istore_n 3, 1) := by decide +kernel
theorem dX10_findSign_27 : decode cX10_findSign 27 = .ok (.aload_n 0, 1) := by decide +kernel
theorem dX10_findSign_28 : decode cX10_findSign 28 = .ok (.dup, 1) := by decide +kernel
theorem dX10_findSign_29 : decode cX10_findSign 29 = .ok (.getfield 53, 3) := by decide +kernel
theorem dX10_findSign_32 : decode cX10_findSign 32 = .ok (.iconst 1, 1) := by decide +kernel
theorem dX10_findSign_33 : decode cX10_findSign 33 = .ok (.iadd, 1) := by decide +kernel
theorem dX10_findSign_34 : decode cX10_findSign 34 = .ok (.putfield 53, 3) := by decide +kernel
theorem dX10_findSign_37 : decode cX10_findSign 37 = .ok (.aload_n 0, 1) := by decide +kernel
theorem dX10_findSign_38 : decode cX10_findSign 38 = .ok (.aload_n 0, 1) := by decide +kernel
theorem dX10_findSign_39 : decode cX10_findSign 39 = .ok (.getfield 53, 3) := by decide +kernel
theorem dX10_findSign_42 : decode cX10_findSign 42 = .ok (.invokevirtual 101, 3) := by decide +kernel
theorem dX10_findSign_45 : decode cX10_findSign 45 = .ok (.bipush 61, 2) := by decide +kernel
theorem dX10_findSign_47 : decode cX10_findSign 47 = .ok (.if_icmp .ne 41, 3) := by decide +kernel
theorem dX10_findSign_50 : decode cX10_findSign 50 = .ok (.iload_n 1, 1) := by decide +kernel
theorem dX10_findSign_51 : decode cX10_findSign 51 = .ok (.bipush 58, 2) := by decide +kernel
theorem dX10_findSign_53 : decode cX10_findSign 53 = .ok (.if_icmp .eq 9, 3) := by decide +kernel
theorem dX10_findSign_56 : decode cX10_findSign 56 = .ok (.iload_n 1, 1) := by decide +kernel
theorem dX10_findSign_57 : decode cX10_findSign 57 = .ok (.bipush 61, 2) := by decide +kernel
theorem dX10_findSign_59 : decode cX10_findSign 59 = .ok (.if_icmp .ne 29, 3) := by decide +kernel
theorem dX10_findSign_62 : decode cX10_findSign 62 = .ok (.iload_n 1, 1) := by decide +kernel
theorem dX10_findSign_63 : decode cX10_findSign 63 = .ok (.bipush 58, 2) := by decide +kernel
theorem dX10_findSign_65 : decode cX10_findSign 65 = .ok (.if_icmp .ne 9, 3) := by decide +kernel
theorem dX10_findSign_68 : decode cX10_findSign 68 = .ok (.sipush 200, 3) := by decide +kernel
theorem dX10_findSign_71 : decode cX10_findSign 71 = .ok (.goto 6, 3) := by decide +kernel
theorem dX10_findSign_74 : decode cX10_findSign 74 = .ok (.sipush 201, 3) := by decide +kernel
theorem dX10_findSign_77 : decode cX10_findSign 77 = .ok (.istore_n 3, 1) := by decide +kernel
theorem dX10_findSign_78 : decode cX10_findSign 78 = .ok (.aload_n 0, 1) := by decide +kernel
theorem dX10_findSign_79 : decode cX10_findSign 79 = .ok (.dup, 1) := by decide +kernel
theorem dX10_findSign_80 : decode cX10_findSign 80 = .ok (.getfield 53, 3) := by decide +kernel
theorem dX10_findSign_83 : decode cX10_findSign 83 = .ok (.iconst 1, 1) := by decide +kernel
theorem dX10_findSign_84 : decode cX10_findSign 84 = .ok (.iadd, 1) := by decide +kernel
theorem dX10_findSign_85 : decode cX10_findSign 85 = .ok (.putfield 53, 3) := by decide +kernel
theorem dX10_findSign_88 : decode cX10_findSign 88 = .ok (.aload_n 0, 1) := by decide +kernel
theorem dX10_findSign_89 : decode cX10_findSign 89 = .ok (.iload_n 3, 1) := by decide +kernel
theorem dX10_findSign_90 : decode cX10_findSign 90 = .ok (.iload_n 2, 1) := by decide +kernel
theorem dX10_findSign_91 : decode cX10_findSign 91 = .ok (.lconst 0, 1) := by decide +kernel
theorem dX10_findSign_92 : decode cX10_findSign 92 = .ok (.invokevirtual 117, 3) := by decide +kernel
theorem dX10_findSign_95 : decode cX10_findSign 95 = .ok (.return_, 1) := by decide +kernel
theorem dX11_program_0 : decode cX11_program 0 = .ok (.aload_n 0, 1) := by decide +kernel
theorem dX11_program_1 : decode cX11_program 1 = .ok (.getfield 73, 3) := by decide +kernel
theorem dX11_program_4 : decode cX11_program 4 = .ok (.istore_n 1, 1) := by decide +kernel
theorem dX11_program_5 : decode cX11_program 5 = .ok (.aload_n 0, 1) := by decide +kernel
theorem dX11_program_6 : decode cX11_program 6 = .ok (.iconst 0, 1) := by decide +kernel
theorem dX11_program_7 : decode cX11_program 7 = .ok (.putfield 73, 3) := by decide +kernel
theorem dX11_program_10 : decode cX11_program 10 = .ok (.aload_n 0, 1) := by decide +kernel
theorem dX11_program_11 : decode cX11_program 11 = .ok (.iconst 0, 1) := by decide +kernel
theorem dX11_program_12 : decode cX11_program 12 = .ok (.putfield 81, 3) := by decide +kernel
theorem dX11_program_15 : decode cX11_program 15 = .ok (.aload_n 0, 1) := by decide +kernel
theorem dX11_program_16 : decode cX11_program 16 = .ok (.getfield 59, 3) := by decide +kernel
theorem dX11_program_19 : decode cX11_program 19 = .ok (.invokevirtual 85, 3) := by decide +kernel
theorem dX11_program_22 : decode cX11_program 22 = .ok (.aload_n 0, 1) := by decide +kernel
theorem dX11_program_23 : decode cX11_program 23 = .ok (.getfield 50, 3) := by decide +kernel
theorem dX11_program_26 : decode cX11_program 26 = .ok (.invokevirtual 88, 3) := by decide +kernel
theorem dX11_program_29 : decode cX11_program 29 = .ok (.aload_n 0, 1) := by decide +kernel
theorem dX11_program_30 : decode cX11_program 30 = .ok (.getfield 16, 3) := by decide +kernel
theorem dX11_program_33 : decode cX11_program 33 = .ok (.aload_n 0, 1) := by decide +kernel
theorem dX11_program_34 : decode cX11_program 34 = .ok (.getfield 9, 3) := by decide +kernel
theorem dX11_program_37 : decode cX11_program 37 = .ok (.iload_n 1, 1) := by decide +kernel
theorem dX11_program_38 : decode cX11_program 38 = .ok (.iconst 4, 1) := by decide +kernel
theorem dX11_program_39 : decode cX11_program 39 = .ok (.invokevirtual 89, 3) := by decide +kernel
theorem dX11_program_42 : decode cX11_program 42 = .ok (.aload_n 0, 1) := by decide +kernel
theorem dX11_program_43 : decode cX11_program 43 = .ok (.getfield 41, 3) := by decide +kernel
theorem dX11_program_46 : decode cX11_program 46 = .ok (.invokevirtual 93, 3) := by decide +kernel
theorem dX11_program_49 : decode cX11_program 49 = .ok (.iconst 0, 1) := by decide +kernel
theorem dX11_program_50 : decode cX11_program 50 = .ok (.istore_n 2, 1) := by decide +kernel
theorem dX11_program_51 : decode cX11_program 51 = .ok (.iload_n 2, 1) := by decide +kernel
theorem dX11_program_52 : decode cX11_program 52 = .ok (.bipush 8, 2) := by decide +kernel
theorem dX11_program_54 : decode cX11_program 54 = .ok (.if_icmp .gt 26, 3) := by decide +kernel
theorem dX11_program_57 : decode cX11_program 57 = .ok (.aload_n 0, 1) := by decide +kernel
theorem dX11_program_58 : decode cX11_program 58 = .ok (.getfield 41, 3) := by decide +kernel
theorem dX11_program_61 : decode cX11_program 61 = .ok (.invokevirtual 96, 3) := by decide +kernel
theorem dX11_program_64 : decode cX11_program 64 = .ok (.ifCond .eq 16, 3) := by decide +kernel
theorem dX11_program_67 : decode cX11_program 67 = .ok (.aload_n 0, 1) := by decide +kernel
theorem dX11_program_68 : decode cX11_program 68 = .ok (.getfield 41, 3) := by decide +kernel
theorem dX11_program_71 : decode cX11_program 71 = .ok (.invokevirtual 100, 3) := by decide +kernel
theorem dX11_program_74 : decode cX11_program 74 = .ok (.iinc 2 1, 3) := by decide +kernel
theorem dX11_program_77 : decode cX11_program 77 = .ok (.goto (-26), 3) := by decide +kernel
theorem dX11_program_80 : decode cX11_program 80 = .ok (.aload_n 0, 1) := by decide +kernel
theorem dX11_program_81 : decode cX11_program 81 = .ok (.getfield 32, 3) := by decide +kernel
theorem dX11_program_84 : decode cX11_program 84 = .ok (.invokevirtual 103, 3) := by decide +kernel
