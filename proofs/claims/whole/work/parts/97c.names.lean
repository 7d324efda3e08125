theorem dX1_walk_103 : decode cX1_walk 103 = .ok (.ifCond .eq 5, 3) := by decide +kernel
theorem dX1_walk_106 : decode cX1_walk 106 = .ok (.iconst 1, 1) := by decide +kernel
theorem dX1_walk_107 : decode cX1_walk 107 = .ok (.ireturn, 1) := by decide +kernel
theorem dX1_walk_108 : decode cX1_walk 108 = .ok (.aload_n 0, 1) := by decide +kernel
theorem dX1_walk_109 : decode cX1_walk 109 = .ok (.getfield 42, 3) := by decide +kernel
theorem dX1_walk_112 : decode cX1_walk 112 = .ok (.iload_n 3, 1) := by decide +kernel
theorem dX1_walk_113 : decode cX1_walk 113 = .ok (.iconst 3, 1) := by decide +kernel
theorem dX1_walk_114 : decode cX1_walk 114 = .ok (.imul, 1) := by decide +kernel
theorem dX1_walk_115 : decode cX1_walk 115 = .ok (.aload 5, 2) := by decide +kernel
theorem dX1_walk_117 : decode cX1_walk 117 = .ok (.getfield 346, 3) := by decide +kernel
theorem dX1_walk_120 : decode cX1_walk 120 = .ok (.iconst 4, 1) := by decide +kernel
theorem dX1_walk_121 : decode cX1_walk 121 = .ok (.if_icmp .ne 7, 3) := by decide +kernel
theorem dX1_walk_124 : decode cX1_walk 124 = .ok (.iconst 2, 1) := by decide +kernel
theorem dX1_walk_125 : decode cX1_walk 125 = .ok (.goto 4, 3) := by decide +kernel
theorem dX1_walk_128 : decode cX1_walk 128 = .ok (.iconst 1, 1) := by decide +kernel
theorem dX1_walk_129 : decode cX1_walk 129 = .ok (.iadd, 1) := by decide +kernel
theorem dX1_walk_130 : decode cX1_walk 130 = .ok (.invokevirtual 173, 3) := by decide +kernel
theorem dX1_walk_133 : decode cX1_walk 133 = .ok (.istore_n 3, 1) := by decide +kernel
theorem dX1_walk_134 : decode cX1_walk 134 = .ok (.iinc 4 1, 3) := by decide +kernel
theorem dX1_walk_137 : decode cX1_walk 137 = .ok (.goto (-132), 3) := by decide +kernel
theorem dX1_walk_140 : decode cX1_walk 140 = .ok (.iconst 1, 1) := by decide +kernel
theorem dX1_walk_141 : decode cX1_walk 141 = .ok (.ireturn, 1) := by decide +kernel
theorem dX1_tell_0 : decode cX1_tell 0 = .ok (.iload_n 1, 1) := by decide +kernel
theorem dX1_tell_1 : decode cX1_tell 1 = .ok (.tableswitch 90 0 7 #[47, 52, 57, 62, 67, 72, 77, 82], 47) := by decide +kernel
theorem dX1_tell_48 : decode cX1_tell 48 = .ok (.aload_n 0, 1) := by decide +kernel
theorem dX1_tell_49 : decode cX1_tell 49 = .ok (.getfield 80, 3) := by decide +kernel
theorem dX1_tell_52 : decode cX1_tell 52 = .ok (.ireturn, 1) := by decide +kernel
theorem dX1_tell_53 : decode cX1_tell 53 = .ok (.aload_n 0, 1) := by decide +kernel
theorem dX1_tell_54 : decode cX1_tell 54 = .ok (.getfield 71, 3) := by decide +kernel
theorem dX1_tell_57 : decode cX1_tell 57 = .ok (.ireturn, 1) := by decide +kernel
theorem dX1_tell_58 : decode cX1_tell 58 = .ok (.aload_n 0, 1) := by decide +kernel
theorem dX1_tell_59 : decode cX1_tell 59 = .ok (.getfield 67, 3) := by decide +kernel
theorem dX1_tell_62 : decode cX1_tell 62 = .ok (.ireturn, 1) := by decide +kernel
theorem dX1_tell_63 : decode cX1_tell 63 = .ok (.aload_n 0, 1) := by decide +kernel
theorem dX1_tell_64 : decode cX1_tell 64 = .ok (.getfield 77, 3) := by decide +kernel
theorem dX1_tell_67 : decode cX1_tell 67 = .ok (.ireturn, 1) := by decide +kernel
theorem dX1_tell_68 : decode cX1_tell 68 = .ok (.aload_n 0, 1) := by decide +kernel
theorem dX1_tell_69 : decode cX1_tell 69 = .ok (.getfield 83, 3) := by decide +kernel
theorem dX1_tell_72 : decode cX1_tell 72 = .ok (.ireturn, 1) := by decide +kernel
theorem dX1_tell_73 : decode cX1_tell 73 = .ok (.aload_n 0, 1) := by decide +kernel
theorem dX1_tell_74 : decode cX1_tell 74 = .ok (.invokevirtual 301, 3) := by decide +kernel
theorem dX1_tell_77 : decode cX1_tell 77 = .ok (.ireturn, 1) := by decide +kernel
theorem dX1_tell_78 : decode cX1_tell 78 = .ok (.aload_n 0, 1) := by decide +kernel
theorem dX1_tell_79 : decode cX1_tell 79 = .ok (.getfield 86, 3) := by decide +kernel
theorem dX1_tell_82 : decode cX1_tell 82 = .ok (.ireturn, 1) := by decide +kernel
theorem dX1_tell_83 : decode cX1_tell 83 = .ok (.aload_n 0, 1) := by decide +kernel
theorem dX1_tell_84 : decode cX1_tell 84 = .ok (.getfield 22, 3) := by decide +kernel
theorem dX1_tell_87 : decode cX1_tell 87 = .ok (.invokevirtual 438, 3) := by decide +kernel
theorem dX1_tell_90 : decode cX1_tell 90 = .ok (.ireturn, 1) := by decide +kernel
theorem dX1_tell_91 : decode cX1_tell 91 = .ok (.iconst (-1), 1) := by decide +kernel
theorem dX1_tell_92 : decode cX1_tell 92 = .ok (.ireturn, 1) := by decide +kernel
theorem dX1_tellEvent_0 : decode cX1_tellEvent 0 = .ok (.iload_n 1, 1) := by decide +kernel
theorem dX1_tellEvent_1 : decode cX1_tellEvent 1 = .ok (.ifCond .lt 25, 3) := by decide +kernel
theorem dX1_tellEvent_4 : decode cX1_tellEvent 4 = .ok (.iload_n 1, 1) := by decide +kernel
theorem dX1_tellEvent_5 : decode cX1_tellEvent 5 = .ok (.aload_n 0, 1) := by decide +kernel
theorem dX1_tellEvent_6 : decode cX1_tellEvent 6 = .ok (.getfield 52, 3) := by decide +kernel
theorem dX1_tellEvent_9 : decode cX1_tellEvent 9 = .ok (.getfield 298, 3) := by decide +kernel
theorem dX1_tellEvent_12 : decode cX1_tellEvent 12 = .ok (.iconst 5, 1) := by decide +kernel
theorem dX1_tellEvent_13 : decode cX1_tellEvent 13 = .ok (.idiv, 1) := by decide +kernel
theorem dX1_tellEvent_14 : decode cX1_tellEvent 14 = .ok (.if_icmp .ge 12, 3) := by decide +kernel
theorem dX1_tellEvent_17 : decode cX1_tellEvent 17 = .ok (.iload_n 2, 1) := by decide +kernel
theorem dX1_tellEvent_18 : decode cX1_tellEvent 18 = .ok (.ifCond .lt 8, 3) := by decide +kernel
theorem dX1_tellEvent_21 : decode cX1_tellEvent 21 = .ok (.iload_n 2, 1) := by decide +kernel
theorem dX1_tellEvent_22 : decode cX1_tellEvent 22 = .ok (.iconst 5, 1) := by decide +kernel
theorem dX1_tellEvent_23 : decode cX1_tellEvent 23 = .ok (.if_icmp .lt 5, 3) := by decide +kernel
theorem dX1_tellEvent_26 : decode cX1_tellEvent 26 = .ok (.iconst (-1), 1) := by decide +kernel
theorem dX1_tellEvent_27 : decode cX1_tellEvent 27 = .ok (.ireturn, 1) := by decide +kernel
theorem dX1_tellEvent_28 : decode cX1_tellEvent 28 = .ok (.aload_n 0, 1) := by decide +kernel
theorem dX1_tellEvent_29 : decode cX1_tellEvent 29 = .ok (.getfield 52, 3) := by decide +kernel
theorem dX1_tellEvent_32 : decode cX1_tellEvent 32 = .ok (.iload_n 1, 1) := by decide +kernel
theorem dX1_tellEvent_33 : decode cX1_tellEvent 33 = .ok (.iconst 5, 1) := by decide +kernel
theorem dX1_tellEvent_34 : decode cX1_tellEvent 34 = .ok (.imul, 1) := by decide +kernel
theorem dX1_tellEvent_35 : decode cX1_tellEvent 35 = .ok (.iload_n 2, 1) := by decide +kernel
theorem dX1_tellEvent_36 : decode cX1_tellEvent 36 = .ok (.iadd, 1) := by decide +kernel
theorem dX1_tellEvent_37 : decode cX1_tellEvent 37 = .ok (.invokevirtual 173, 3) := by decide +kernel
theorem dX1_tellEvent_40 : decode cX1_tellEvent 40 = .ok (.ireturn, 1) := by decide +kernel
theorem dX1_tellThread_0 : decode cX1_tellThread 0 = .ok (.iload_n 1, 1) := by decide +kernel
theorem dX1_tellThread_1 : decode cX1_tellThread 1 = .ok (.ifCond .lt 11, 3) := by decide +kernel
theorem dX1_tellThread_4 : decode cX1_tellThread 4 = .ok (.iload_n 1, 1) := by decide +kernel
theorem dX1_tellThread_5 : decode cX1_tellThread 5 = .ok (.aload_n 0, 1) := by decide +kernel
theorem dX1_tellThread_6 : decode cX1_tellThread 6 = .ok (.getfield 67, 3) := by decide +kernel
theorem dX1_tellThread_9 : decode cX1_tellThread 9 = .ok (.if_icmp .lt 5, 3) := by decide +kernel
theorem dX1_tellThread_12 : decode cX1_tellThread 12 = .ok (.iconst (-1), 1) := by decide +kernel
theorem dX1_tellThread_13 : decode cX1_tellThread 13 = .ok (.ireturn, 1) := by decide +kernel
theorem dX1_tellThread_14 : decode cX1_tellThread 14 = .ok (.aload_n 0, 1) := by decide +kernel
theorem dX1_tellThread_15 : decode cX1_tellThread 15 = .ok (.iload_n 1, 1) := by decide +kernel
theorem dX1_tellThread_16 : decode cX1_tellThread 16 = .ok (.invokevirtual 118, 3) := by decide +kernel
theorem dX1_tellThread_19 : decode cX1_tellThread 19 = .ok (.astore_n 3, 1) := by decide +kernel
theorem dX1_tellThread_20 : decode cX1_tellThread 20 = .ok (.aload_n 3, 1) := by decide +kernel
theorem dX1_tellThread_21 : decode cX1_tellThread 21 = .ok (.getfield 408, 3) := by decide +kernel
theorem dX1_tellThread_24 : decode cX1_tellThread 24 = .ok (.invokestatic 291, 3) := by decide +kernel
theorem dX1_tellThread_27 : decode cX1_tellThread 27 = .ok (.istore 4, 2) := by decide +kernel
theorem dX1_tellThread_29 : decode cX1_tellThread 29 = .ok (.iload_n 2, 1) := by decide +kernel
theorem dX1_tellThread_30 : decode cX1_tellThread 30 = .ok (.tableswitch 102 0 4 #[34, 39, 54, 69, 74], 34) := by decide +kernel
theorem dX1_tellThread_64 : decode cX1_tellThread 64 = .ok (.aload_n 3, 1) := by decide +kernel
theorem dX1_tellThread_65 : decode cX1_tellThread 65 = .ok (.getfield 134, 3) := by decide +kernel
theorem dX1_tellThread_68 : decode cX1_tellThread 68 = .ok (.ireturn, 1) := by decide +kernel
theorem dX1_tellThread_69 : decode cX1_tellThread 69 = .ok (.iload 4, 2) := by decide +kernel
theorem dX1_tellThread_71 : decode cX1_tellThread 71 = .ok (.ifCond .ne 11, 3) := by decide +kernel
theorem dX1_tellThread_74 : decode cX1_tellThread 74 = .ok (.aload_n 3, 1) := by decide +kernel
theorem dX1_tellThread_75 : decode cX1_tellThread 75 = .ok (.getfield 408, 3) := by decide +kernel
theorem dX1_tellThread_78 : decode cX1_tellThread 78 = .ok (.l2i, 1) := by decide +kernel
theorem dX1_tellThread_79 : decode cX1_tellThread 79 = .ok (.goto 4, 3) := by decide +kernel
theorem dX1_tellThread_82 : decode cX1_tellThread 82 = .ok (.iconst 0, 1) := by decide +kernel
theorem dX1_tellThread_83 : decode cX1_tellThread 83 = .ok (.ireturn, 1) := by decide +kernel
theorem dX1_tellThread_84 : decode cX1_tellThread 84 = .ok (.aload_n 3, 1) := by decide +kernel
theorem dX1_tellThread_85 : decode cX1_tellThread 85 = .ok (.getfield 134, 3) := by decide +kernel
theorem dX1_tellThread_88 : decode cX1_tellThread 88 = .ok (.iconst 1, 1) := by decide +kernel
theorem dX1_tellThread_89 : decode cX1_tellThread 89 = .ok (.if_icmp .ne 8, 3) := by decide +kernel
theorem dX1_tellThread_92 : decode cX1_tellThread 92 = .ok (.iload 4, 2) := by decide +kernel
theorem dX1_tellThread_94 : decode cX1_tellThread 94 = .ok (.goto 4, 3) := by decide +kernel
theorem dX1_tellThread_97 : decode cX1_tellThread 97 = .ok (.iconst (-1), 1) := by decide +kernel
theorem dX1_tellThread_98 : decode cX1_tellThread 98 = .ok (.ireturn, 1) := by decide +kernel
theorem dX1_tellThread_99 : decode cX1_tellThread 99 = .ok (.aload_n 3, 1) := by decide +kernel
theorem dX1_tellThread_100 : decode cX1_tellThread 100 = .ok (.getfield 441, 3) := by decide +kernel
theorem dX1_tellThread_103 : decode cX1_tellThread 103 = .ok (.ireturn, 1) := by decide +kernel
theorem dX1_tellThread_104 : decode cX1_tellThread 104 = .ok (.aload_n 3, 1) := by decide +kernel
theorem dX1_tellThread_105 : decode cX1_tellThread 105 = .ok (.getfield 141, 3) := by decide +kernel
theorem dX1_tellThread_108 : decode cX1_tellThread 108 = .ok (.iconst (-1), 1) := by decide +kernel
theorem dX1_tellThread_109 : decode cX1_tellThread 109 = .ok (.if_icmp .eq 21, 3) := by decide +kernel
theorem dX1_tellThread_112 : decode cX1_tellThread 112 = .ok (.aload_n 0, 1) := by decide +kernel
theorem dX1_tellThread_113 : decode cX1_tellThread 113 = .ok (.aload_n 3, 1) := by decide +kernel
theorem dX1_tellThread_114 : decode cX1_tellThread 114 = .ok (.getfield 141, 3) := by decide +kernel
theorem dX1_tellThread_117 : decode cX1_tellThread 117 = .ok (.invokevirtual 137, 3) := by decide +kernel
theorem dX1_tellThread_120 : decode cX1_tellThread 120 = .ok (.ifCond .ne 10, 3) := by decide +kernel
theorem dX1_tellThread_123 : decode cX1_tellThread 123 = .ok (.aload_n 3, 1) := by decide +kernel
theorem dX1_tellThread_124 : decode cX1_tellThread 124 = .ok (.getfield 141, 3) := by decide +kernel
theorem dX1_tellThread_127 : decode cX1_tellThread 127 = .ok (.goto 4, 3) := by decide +kernel
theorem dX1_tellThread_130 : decode cX1_tellThread 130 = .ok (.iconst (-1), 1) := by decide +kernel
theorem dX1_tellThread_131 : decode cX1_tellThread 131 = .ok (.ireturn, 1) := by decide +kernel
theorem dX1_tellThread_132 : decode cX1_tellThread 132 = .ok (.iconst (-1), 1) := by decide +kernel
theorem dX1_tellThread_133 : decode cX1_tellThread 133 = .ok (.ireturn, 1) := by decide +kernel
theorem dX1_tellContext_0 : decode cX1_tellContext 0 = .ok (.iload_n 1, 1) := by decide +kernel
theorem dX1_tellContext_1 : decode cX1_tellContext 1 = .ok (.ifCond .lt 14, 3) := by decide +kernel
theorem dX1_tellContext_4 : decode cX1_tellContext 4 = .ok (.iload_n 1, 1) := by decide +kernel
theorem dX1_tellContext_5 : decode cX1_tellContext 5 = .ok (.aload_n 0, 1) := by decide +kernel
theorem dX1_tellContext_6 : decode cX1_tellContext 6 = .ok (.getfield 22, 3) := by decide +kernel
theorem dX1_tellContext_9 : decode cX1_tellContext 9 = .ok (.invokevirtual 438, 3) := by decide +kernel
theorem dX1_tellContext_12 : decode cX1_tellContext 12 = .ok (.if_icmp .lt 5, 3) := by decide +kernel
theorem dX1_tellContext_15 : decode cX1_tellContext 15 = .ok (.iconst (-1), 1) := by decide +kernel
theorem dX1_tellContext_16 : decode cX1_tellContext 16 = .ok (.ireturn, 1) := by decide +kernel
theorem dX1_tellContext_17 : decode cX1_tellContext 17 = .ok (.iload_n 2, 1) := by decide +kernel
theorem dX1_tellContext_18 : decode cX1_tellContext 18 = .ok (.iconst (-1), 1) := by decide +kernel
theorem dX1_tellContext_19 : decode cX1_tellContext 19 = .ok (.if_icmp .ne 12, 3) := by decide +kernel
theorem dX1_tellContext_22 : decode cX1_tellContext 22 = .ok (.aload_n 0, 1) := by decide +kernel
theorem dX1_tellContext_23 : decode cX1_tellContext 23 = .ok (.getfield 22, 3) := by decide +kernel
theorem dX1_tellContext_26 : decode cX1_tellContext 26 = .ok (.iload_n 1, 1) := by decide +kernel
theorem dX1_tellContext_27 : decode cX1_tellContext 27 = .ok (.invokevirtual 444, 3) := by decide +kernel
theorem dX1_tellContext_30 : decode cX1_tellContext 30 = .ok (.ireturn, 1) := by decide +kernel
theorem dX1_tellContext_31 : decode cX1_tellContext 31 = .ok (.iload_n 2, 1) := by decide +kernel
theorem dX1_tellContext_32 : decode cX1_tellContext 32 = .ok (.ifCond .lt 27, 3) := by decide +kernel
theorem dX1_tellContext_35 : decode cX1_tellContext 35 = .ok (.iload_n 2, 1) := by decide +kernel
theorem dX1_tellContext_36 : decode cX1_tellContext 36 = .ok (.aload_n 0, 1) := by decide +kernel
theorem dX1_tellContext_37 : decode cX1_tellContext 37 = .ok (.getfield 22, 3) := by decide +kernel
theorem dX1_tellContext_40 : decode cX1_tellContext 40 = .ok (.iload_n 1, 1) := by decide +kernel
theorem dX1_tellContext_41 : decode cX1_tellContext 41 = .ok (.invokevirtual 444, 3) := by decide +kernel
theorem dX1_tellContext_44 : decode cX1_tellContext 44 = .ok (.if_icmp .ge 15, 3) := by decide +kernel
theorem dX1_tellContext_47 : decode cX1_tellContext 47 = .ok (.aload_n 0, 1) := by decide +kernel
theorem dX1_tellContext_48 : decode cX1_tellContext 48 = .ok (.getfield 22, 3) := by decide +kernel
theorem dX1_tellContext_51 : decode cX1_tellContext 51 = .ok (.iload_n 1, 1) := by decide +kernel
theorem dX1_tellContext_52 : decode cX1_tellContext 52 = .ok (.iload_n 2, 1) := by decide +kernel
theorem dX1_tellContext_53 : decode cX1_tellContext 53 = .ok (.invokevirtual 447, 3) := by decide +kernel
theorem dX1_tellContext_56 : decode cX1_tellContext 56 = .ok (.goto 4, 3) := by decide +kernel
theorem dX1_tellContext_59 : decode cX1_tellContext 59 = .ok (.iconst (-1), 1) := by decide +kernel
theorem dX1_tellContext_60 : decode cX1_tellContext 60 = .ok (.ireturn, 1) := by decide +kernel
theorem dX2_addUnit_0 : decode cX2_addUnit 0 = .ok (.aload_n 0, 1) := by decide +kernel
theorem dX2_addUnit_1 : decode cX2_addUnit 1 = .ok (.getfield 59, 3) := by decide +kernel
theorem dX2_addUnit_4 : decode cX2_addUnit 4 = .ok (.bipush 60, 2) := by decide +kernel
theorem dX2_addUnit_6 : decode cX2_addUnit 6 = .ok (.if_icmp .ge 10, 3) := by decide +kernel
theorem dX2_addUnit_9 : decode cX2_addUnit 9 = .ok (.aload_n 0, 1) := by decide +kernel
theorem dX2_addUnit_10 : decode cX2_addUnit 10 = .ok (.getfield 59, 3) := by decide +kernel
theorem dX2_addUnit_13 : decode cX2_addUnit 13 = .ok (.goto 5, 3) := by decide +kernel
theorem dX2_addUnit_16 : decode cX2_addUnit 16 = .ok (.bipush 59, 2) := by decide +kernel
theorem dX2_addUnit_18 : decode cX2_addUnit 18 = .ok (.istore 4, 2) := by decide +kernel
theorem dX2_addUnit_20 : decode cX2_addUnit 20 = .ok (.aload_n 0, 1) := by decide +kernel
theorem dX2_addUnit_21 : decode cX2_addUnit 21 = .ok (.getfield 17, 3) := by decide +kernel
theorem dX2_addUnit_24 : decode cX2_addUnit 24 = .ok (.iload 4, 2) := by decide +kernel
theorem dX2_addUnit_26 : decode cX2_addUnit 26 = .ok (.aaload, 1) := by decide +kernel
theorem dX2_addUnit_27 : decode cX2_addUnit 27 = .ok (.astore 5, 2) := by decide +kernel
theorem dX2_addUnit_29 : decode cX2_addUnit 29 = .ok (.aload 5, 2) := by decide +kernel
theorem dX2_addUnit_31 : decode cX2_addUnit 31 = .ok (.iload 4, 2) := by decide +kernel
theorem dX2_addUnit_33 : decode cX2_addUnit 33 = .ok (.iload_n 1, 1) := by decide +kernel
theorem dX2_addUnit_34 : decode cX2_addUnit 34 = .ok (.iload_n 2, 1) := by decide +kernel
theorem dX2_addUnit_35 : decode cX2_addUnit 35 = .ok (.iload_n 3, 1) := by decide +kernel
theorem dX2_addUnit_36 : decode cX2_addUnit 36 = .ok (.invokevirtual 72, 3) := by decide +kernel
theorem dX2_addUnit_39 : decode cX2_addUnit 39 = .ok (.aload 5, 2) := by decide +kernel
theorem dX2_addUnit_41 : decode cX2_addUnit 41 = .ok (.aload_n 0, 1) := by decide +kernel
theorem dX2_addUnit_42 : decode cX2_addUnit 42 = .ok (.getfield 9, 3) := by decide +kernel
theorem dX2_addUnit_45 : decode cX2_addUnit 45 = .ok (.iload_n 2, 1) := by decide +kernel
theorem dX2_addUnit_46 : decode cX2_addUnit 46 = .ok (.invokevirtual 76, 3) := by decide +kernel
theorem dX2_addUnit_49 : decode cX2_addUnit 49 = .ok (.putfield 80, 3) := by decide +kernel
theorem dX2_addUnit_52 : decode cX2_addUnit 52 = .ok (.aload_n 0, 1) := by decide +kernel
theorem dX2_addUnit_53 : decode cX2_addUnit 53 = .ok (.iload 4, 2) := by decide +kernel
theorem dX2_addUnit_55 : decode cX2_addUnit 55 = .ok (.iconst 1, 1) := by decide +kernel
theorem dX2_addUnit_56 : decode cX2_addUnit 56 = .ok (.iadd, 1) := by decide +kernel
theorem dX2_addUnit_57 : decode cX2_addUnit 57 = .ok (.putfield 59, 3) := by decide +kernel
theorem dX2_addUnit_60 : decode cX2_addUnit 60 = .ok (.aload 5, 2) := by decide +kernel
theorem dX2_addUnit_62 : decode cX2_addUnit 62 = .ok (.areturn, 1) := by decide +kernel
theorem dX2_addModule_0 : decode cX2_addModule 0 = .ok (.aload_n 0, 1) := by decide +kernel
theorem dX2_addModule_1 : decode cX2_addModule 1 = .ok (.getfield 63, 3) := by decide +kernel
theorem dX2_addModule_4 : decode cX2_addModule 4 = .ok (.bipush 8, 2) := by decide +kernel
theorem dX2_addModule_6 : decode cX2_addModule 6 = .ok (.if_icmp .ge 10, 3) := by decide +kernel
theorem dX2_addModule_9 : decode cX2_addModule 9 = .ok (.aload_n 0, 1) := by decide +kernel
theorem dX2_addModule_10 : decode cX2_addModule 10 = .ok (.getfield 63, 3) := by decide +kernel
theorem dX2_addModule_13 : decode cX2_addModule 13 = .ok (.goto 5, 3) := by decide +kernel
theorem dX2_addModule_16 : decode cX2_addModule 16 = .ok (.bipush 7, 2) := by decide +kernel
theorem dX2_addModule_18 : decode cX2_addModule 18 = .ok (.istore_n 3, 1) := by decide +kernel
theorem dX2_addModule_19 : decode cX2_addModule 19 = .ok (.aload_n 0, 1) := by decide +kernel
theorem dX2_addModule_20 : decode cX2_addModule 20 = .ok (.getfield 22, 3) := by decide +kernel
theorem dX2_addModule_23 : decode cX2_addModule 23 = .ok (.iload_n 3, 1) := by decide +kernel
theorem dX2_addModule_24 : decode cX2_addModule 24 = .ok (.lload_n 1, 1) := by decide +kernel
theorem dX2_addModule_25 : decode cX2_addModule 25 = .ok (.lastore, 1) := by decide +kernel
theorem dX2_addModule_26 : decode cX2_addModule 26 = .ok (.aload_n 0, 1) := by decide +kernel
theorem dX2_addModule_27 : decode cX2_addModule 27 = .ok (.getfield 26, 3) := by decide +kernel
theorem dX2_addModule_30 : decode cX2_addModule 30 = .ok (.iload_n 3, 1) := by decide +kernel
theorem dX2_addModule_31 : decode cX2_addModule 31 = .ok (.iconst (-1), 1) := by decide +kernel
theorem dX2_addModule_32 : decode cX2_addModule 32 = .ok (.iastore, 1) := by decide +kernel
theorem dX2_addModule_33 : decode cX2_addModule 33 = .ok (.aload_n 0, 1) := by decide +kernel
theorem dX2_addModule_34 : decode cX2_addModule 34 = .ok (.getfield 33, 3) := by decide +kernel
theorem dX2_addModule_37 : decode cX2_addModule 37 = .ok (.iload_n 3, 1) := by decide +kernel
theorem dX2_addModule_38 : decode cX2_addModule 38 = .ok (.iconst 0, 1) := by decide +kernel
theorem dX2_addModule_39 : decode cX2_addModule 39 = .ok (.iastore, 1) := by decide +kernel
theorem dX2_addModule_40 : decode cX2_addModule 40 = .ok (.aload_n 0, 1) := by decide +kernel
theorem dX2_addModule_41 : decode cX2_addModule 41 = .ok (.getfield 36, 3) := by decide +kernel
theorem dX2_addModule_44 : decode cX2_addModule 44 = .ok (.iload_n 3, 1) := by decide +kernel
theorem dX2_addModule_45 : decode cX2_addModule 45 = .ok (.iconst 0, 1) := by decide +kernel
theorem dX2_addModule_46 : decode cX2_addModule 46 = .ok (.iastore, 1) := by decide +kernel
theorem dX2_addModule_47 : decode cX2_addModule 47 = .ok (.aload_n 0, 1) := by decide +kernel
theorem dX2_addModule_48 : decode cX2_addModule 48 = .ok (.getfield 42, 3) := by decide +kernel
theorem dX2_addModule_51 : decode cX2_addModule 51 = .ok (.iload_n 3, 1) := by decide +kernel
theorem dX2_addModule_52 : decode cX2_addModule 52 = .ok (.iconst 0, 1) := by decide +kernel
theorem dX2_addModule_53 : decode cX2_addModule 53 = .ok (.iastore, 1) := by decide +kernel
theorem dX2_addModule_54 : decode cX2_addModule 54 = .ok (.aload_n 0, 1) := by decide +kernel
theorem dX2_addModule_55 : decode cX2_addModule 55 = .ok (.iload_n 3, 1) := by decide +kernel
theorem dX2_addModule_56 : decode cX2_addModule 56 = .ok (.iconst 1, 1) := by decide +kernel
theorem dX2_addModule_57 : decode cX2_addModule 57 = .ok (.iadd, 1) := by decide +kernel
theorem dX2_addModule_58 : decode cX2_addModule 58 = .ok (.putfield 63, 3) := by decide +kernel
theorem dX2_addModule_61 : decode cX2_addModule 61 = .ok (.iload_n 3, 1) := by decide +kernel
theorem dX2_addModule_62 : decode cX2_addModule 62 = .ok (.ireturn, 1) := by decide +kernel
theorem dX2_findModule_0 : decode cX2_findModule 0 = .ok (.iconst 0, 1) := by decide +kernel
theorem dX2_findModule_1 : decode cX2_findModule 1 = .ok (.istore_n 3, 1) := by decide +kernel
theorem dX2_findModule_2 : decode cX2_findModule 2 = .ok (.iload_n 3, 1) := by decide +kernel
theorem dX2_findModule_3 : decode cX2_findModule 3 = .ok (.aload_n 0, 1) := by decide +kernel
theorem dX2_findModule_4 : decode cX2_findModule 4 = .ok (.getfield 63, 3) := by decide +kernel
theorem dX2_findModule_7 : decode cX2_findModule 7 = .ok (.if_icmp .ge 22, 3) := by decide +kernel
theorem dX2_findModule_10 : decode cX2_findModule 10 = .ok (.aload_n 0, 1) := by decide +kernel
theorem dX2_findModule_11 : decode cX2_findModule 11 = .ok (.getfield 22, 3) := by decide +kernel
theorem dX2_findModule_14 : decode cX2_findModule 14 = .ok (.iload_n 3, 1) := by decide +kernel
theorem dX2_findModule_15 : decode cX2_findModule 15 = .ok (.laload, 1) := by decide +kernel
theorem dX2_findModule_16 : decode cX2_findModule 16 = .ok (.lload_n 1, 1) := by decide +kernel
theorem dX2_findModule_17 : decode cX2_findModule 17 = .ok (.lcmp, 1) := by decide +kernel
theorem dX2_findModule_18 : decode cX2_findModule 18 = .ok (.ifCond .ne 5, 3) := by decide +kernel
theorem dX2_findModule_21 : decode cX2_findModule 21 = .ok (.iload_n 3, 1) := by decide +kernel
theorem dX2_findModule_22 : decode cX2_findModule 22 = .ok (.ireturn, 1) := by decide +kernel
theorem dX2_findModule_23 : decode cX2_findModule 23 = .ok (.iinc 3 1, 3) := by decide +kernel
theorem dX2_findModule_26 : decode cX2_findModule 26 = .ok (.goto (-24), 3) := by decide +kernel
theorem dX2_findModule_29 : decode cX2_findModule 29 = .ok (.iconst (-1), 1) := by decide +kernel
theorem dX2_findModule_30 : decode cX2_findModule 30 = .ok (.ireturn, 1) := by decide +kernel
theorem dX2_isModule_0 : decode cX2_isModule 0 = .ok (.iload_n 1, 1) := by decide +kernel
theorem dX2_isModule_1 : decode cX2_isModule 1 = .ok (.ifCond .lt 15, 3) := by decide +kernel
theorem dX2_isModule_4 : decode cX2_isModule 4 = .ok (.iload_n 1, 1) := by decide +kernel
theorem dX2_isModule_5 : decode cX2_isModule 5 = .ok (.aload_n 0, 1) := by decide +kernel
theorem dX2_isModule_6 : decode cX2_isModule 6 = .ok (.getfield 63, 3) := by decide +kernel
theorem dX2_isModule_9 : decode cX2_isModule 9 = .ok (.if_icmp .ge 7, 3) := by decide +kernel
theorem dX2_isModule_12 : decode cX2_isModule 12 = .ok (.iconst 1, 1) := by decide +kernel
theorem dX2_isModule_13 : decode cX2_isModule 13 = .ok (.goto 4, 3) := by decide +kernel
theorem dX2_isModule_16 : decode cX2_isModule 16 = .ok (.iconst 0, 1) := by decide +kernel
theorem dX2_isModule_17 : decode cX2_isModule 17 = .ok (.ireturn, 1) := by decide +kernel
theorem dX2_setSuper_0 : decode cX2_setSuper 0 = .ok (.aload_n 0, 1) := by decide +kernel
theorem dX2_setSuper_1 : decode cX2_setSuper 1 = .ok (.iload_n 1, 1) := by decide +kernel
theorem dX2_setSuper_2 : decode cX2_setSuper 2 = .ok (.invokevirtual 83, 3) := by decide +kernel
theorem dX2_setSuper_5 : decode cX2_setSuper 5 = .ok (.ifCond .eq 29, 3) := by decide +kernel
theorem dX2_setSuper_8 : decode cX2_setSuper 8 = .ok (.aload_n 0, 1) := by decide +kernel
theorem dX2_setSuper_9 : decode cX2_setSuper 9 = .ok (.iload_n 2, 1) := by decide +kernel
theorem dX2_setSuper_10 : decode cX2_setSuper 10 = .ok (.invokevirtual 83, 3) := by decide +kernel
theorem dX2_setSuper_13 : decode cX2_setSuper 13 = .ok (.ifCond .eq 21, 3) := by decide +kernel
theorem dX2_setSuper_16 : decode cX2_setSuper 16 = .ok (.aload_n 0, 1) := by decide +kernel
theorem dX2_setSuper_17 : decode cX2_setSuper 17 = .ok (.getfield 26, 3) := by decide +kernel
theorem dX2_setSuper_20 : decode cX2_setSuper 20 = .ok (.iload_n 1, 1) := by decide +kernel
theorem dX2_setSuper_21 : decode cX2_setSuper 21 = .ok (.iload_n 2, 1) := by decide +kernel
theorem dX2_setSuper_22 : decode cX2_setSuper 22 = .ok (.iastore, 1) := by decide +kernel
theorem dX2_setSuper_23 : decode cX2_setSuper 23 = .ok (.aload_n 0, 1) := by decide +kernel
theorem dX2_setSuper_24 : decode cX2_setSuper 24 = .ok (.getfield 36, 3) := by decide +kernel
theorem dX2_setSuper_27 : decode cX2_setSuper 27 = .ok (.iload_n 1, 1) := by decide +kernel
theorem dX2_setSuper_28 : decode cX2_setSuper 28 = .ok (.aload_n 0, 1) := by decide +kernel
theorem dX2_setSuper_29 : decode cX2_setSuper 29 = .ok (.iload_n 2, 1) := by decide +kernel
theorem dX2_setSuper_30 : decode cX2_setSuper 30 = .ok (.invokevirtual 87, 3) := by decide +kernel
theorem dX2_setSuper_33 : decode cX2_setSuper 33 = .ok (.iastore, 1) := by decide +kernel
theorem dX2_setSuper_34 : decode cX2_setSuper 34 = .ok (.return_, 1) := by decide +kernel
theorem dX2_fieldCount_0 : decode cX2_fieldCount 0 = .ok (.aload_n 0, 1) := by decide +kernel
theorem dX2_fieldCount_1 : decode cX2_fieldCount 1 = .ok (.iload_n 1, 1) := by decide +kernel
theorem dX2_fieldCount_2 : decode cX2_fieldCount 2 = .ok (.invokevirtual 83, 3) := by decide +kernel
theorem dX2_fieldCount_5 : decode cX2_fieldCount 5 = .ok (.ifCond .eq 12, 3) := by decide +kernel
theorem dX2_fieldCount_8 : decode cX2_fieldCount 8 = .ok (.aload_n 0, 1) := by decide +kernel
theorem dX2_fieldCount_9 : decode cX2_fieldCount 9 = .ok (.getfield 33, 3) := by decide +kernel
theorem dX2_fieldCount_12 : decode cX2_fieldCount 12 = .ok (.iload_n 1, 1) := by decide +kernel
theorem dX2_fieldCount_13 : decode cX2_fieldCount 13 = .ok (.iaload, 1) := by decide +kernel
theorem dX2_fieldCount_14 : decode cX2_fieldCount 14 = .ok (.goto 4, 3) := by decide +kernel
theorem dX2_fieldCount_17 : decode cX2_fieldCount 17 = .ok (.iconst 0, 1) := by decide +kernel
theorem dX2_fieldCount_18 : decode cX2_fieldCount 18 = .ok (.ireturn, 1) := by decide +kernel
theorem dX2_fieldTotal_0 : decode cX2_fieldTotal 0 = .ok (.aload_n 0, 1) := by decide +kernel
theorem dX2_fieldTotal_1 : decode cX2_fieldTotal 1 = .ok (.iload_n 1, 1) := by decide +kernel
theorem dX2_fieldTotal_2 : decode cX2_fieldTotal 2 = .ok (.invokevirtual 83, 3) := by decide +kernel
theorem dX2_fieldTotal_5 : decode cX2_fieldTotal 5 = .ok (.ifCond .eq 19, 3) := by decide +kernel
theorem dX2_fieldTotal_8 : decode cX2_fieldTotal 8 = .ok (.aload_n 0, 1) := by decide +kernel
theorem dX2_fieldTotal_9 : decode cX2_fieldTotal 9 = .ok (.getfield 36, 3) := by decide +kernel
theorem dX2_fieldTotal_12 : decode cX2_fieldTotal 12 = .ok (.iload_n 1, 1) := by decide +kernel
theorem dX2_fieldTotal_13 : decode cX2_fieldTotal 13 = .ok (.iaload, 1) := by decide +kernel
theorem dX2_fieldTotal_14 : decode cX2_fieldTotal 14 = .ok (.aload_n 0, 1) := by decide +kernel
theorem dX2_fieldTotal_15 : decode cX2_fieldTotal 15 = .ok (.getfield 33, 3) := by decide +kernel
theorem dX2_fieldTotal_18 : decode cX2_fieldTotal 18 = .ok (.iload_n 1, 1) := by decide +kernel
theorem dX2_fieldTotal_19 : decode cX2_fieldTotal 19 = .ok (.iaload, 1) := by decide +kernel
theorem dX2_fieldTotal_20 : decode cX2_fieldTotal 20 = .ok (.iadd, 1) := by decide +kernel
theorem dX2_fieldTotal_21 : decode cX2_fieldTotal 21 = .ok (.goto 4, 3) := by decide +kernel
theorem dX2_fieldTotal_24 : decode cX2_fieldTotal 24 = .ok (.iconst 0, 1) := by decide +kernel
theorem dX2_fieldTotal_25 : decode cX2_fieldTotal 25 = .ok (.ireturn, 1) := by decide +kernel
theorem dX2_addField_0 : decode cX2_addField 0 = .ok (.aload_n 0, 1) := by decide +kernel
theorem dX2_addField_1 : decode cX2_addField 1 = .ok (.iload_n 1, 1) := by decide +kernel
theorem dX2_addField_2 : decode cX2_addField 2 = .ok (.invokevirtual 83, 3) := by decide +kernel
theorem dX2_addField_5 : decode cX2_addField 5 = .ok (.ifCond .eq 39, 3) := by decide +kernel
theorem dX2_addField_8 : decode cX2_addField 8 = .ok (.aload_n 0, 1) := by decide +kernel
theorem dX2_addField_9 : decode cX2_addField 9 = .ok (.getfield 33, 3) := by decide +kernel
theorem dX2_addField_12 : decode cX2_addField 12 = .ok (.iload_n 1, 1) := by decide +kernel
theorem dX2_addField_13 : decode cX2_addField 13 = .ok (.iaload, 1) := by decide +kernel
theorem dX2_addField_14 : decode cX2_addField 14 = .ok (.iconst 4, 1) := by decide +kernel
theorem dX2_addField_15 : decode cX2_addField 15 = .ok (.if_icmp .ge 29, 3) := by decide +kernel
theorem dX2_addField_18 : decode cX2_addField 18 = .ok (.aload_n 0, 1) := by decide +kernel
theorem dX2_addField_19 : decode cX2_addField 19 = .ok (.getfield 30, 3) := by decide +kernel
theorem dX2_addField_22 : decode cX2_addField 22 = .ok (.iload_n 1, 1) := by decide +kernel
theorem dX2_addField_23 : decode cX2_addField 23 = .ok (.iconst 4, 1) := by decide +kernel
theorem dX2_addField_24 : decode cX2_addField 24 = .ok (.imul, 1) := by decide +kernel
theorem dX2_addField_25 : decode cX2_addField 25 = .ok (.aload_n 0, 1) := by decide +kernel
theorem dX2_addField_26 : decode cX2_addField 26 = .ok (.getfield 33, 3) := by decide +kernel
theorem dX2_addField_29 : decode cX2_addField 29 = .ok (.iload_n 1, 1) := by decide +kernel
theorem dX2_addField_30 : decode cX2_addField 30 = .ok (.iaload, 1) := by decide +kernel
theorem dX2_addField_31 : decode cX2_addField 31 = .ok (.iadd, 1) := by decide +kernel
theorem dX2_addField_32 : decode cX2_addField 32 = .ok (.lload_n 2, 1) := by decide +kernel
theorem dX2_addField_33 : decode cX2_addField 33 = .ok (.lastore, 1) := by decide +kernel
theorem dX2_addField_34 : decode cX2_addField 34 = .ok (.aload_n 0, 1) := by decide +kernel
theorem dX2_addField_35 : decode cX2_addField 35 = .ok (.getfield 33, 3) := by decide +kernel
theorem dX2_addField_38 : decode cX2_addField 38 = .ok (.iload_n 1, 1) := by decide +kernel
theorem dX2_addField_39 : decode cX2_addField 39 = .ok (.dup2, 1) := by decide +kernel
theorem dX2_addField_40 : decode cX2_addField 40 = .ok (.iaload, 1) := by decide +kernel
theorem dX2_addField_41 : decode cX2_addField 41 = .ok (.iconst 1, 1) := by decide +kernel
theorem dX2_addField_42 : decode cX2_addField 42 = .ok (.iadd, 1) := by decide +kernel
theorem dX2_addField_43 : decode cX2_addField 43 = .ok (.iastore, 1) := by decide +kernel
theorem dX2_addField_44 : decode cX2_addField 44 = .ok (.return_, 1) := by decide +kernel
theorem dX2_fieldSlot_0 : decode cX2_fieldSlot 0 = .ok (.iload_n 1, 1) := by decide +kernel
theorem dX2_fieldSlot_1 : decode cX2_fieldSlot 1 = .ok (.istore 4, 2) := by decide +kernel
theorem dX2_fieldSlot_3 : decode cX2_fieldSlot 3 = .ok (.iconst 0, 1) := by decide +kernel
theorem dX2_fieldSlot_4 : decode cX2_fieldSlot 4 = .ok (.istore 5, 2) := by decide +kernel
theorem dX2_fieldSlot_6 : decode cX2_fieldSlot 6 = .ok (.iload 5, 2) := by decide +kernel
theorem dX2_fieldSlot_8 : decode cX2_fieldSlot 8 = .ok (.bipush 8, 2) := by decide +kernel
theorem dX2_fieldSlot_10 : decode cX2_fieldSlot 10 = .ok (.if_icmp .ge 76, 3) := by decide +kernel
theorem dX2_fieldSlot_13 : decode cX2_fieldSlot 13 = .ok (.aload_n 0, 1) := by decide +kernel
theorem dX2_fieldSlot_14 : decode cX2_fieldSlot 14 = .ok (.iload 4, 2) := by decide +kernel
theorem dX2_fieldSlot_16 : decode cX2_fieldSlot 16 = .ok (.invokevirtual 83, 3) := by decide +kernel
theorem dX2_fieldSlot_19 : decode cX2_fieldSlot 19 = .ok (.ifCond .eq 67, 3) := by decide +kernel
theorem dX2_fieldSlot_22 : decode cX2_fieldSlot 22 = .ok (.iconst 0, 1) := by decide +kernel
theorem dX2_fieldSlot_23 : decode cX2_fieldSlot 23 = .ok (.istore 6, 2) := by decide +kernel
theorem dX2_fieldSlot_25 : decode cX2_fieldSlot 25 = .ok (.iload 6, 2) := by decide +kernel
theorem dX2_fieldSlot_27 : decode cX2_fieldSlot 27 = .ok (.aload_n 0, 1) := by decide +kernel
theorem dX2_fieldSlot_28 : decode cX2_fieldSlot 28 = .ok (.getfield 33, 3) := by decide +kernel
theorem dX2_fieldSlot_31 : decode cX2_fieldSlot 31 = .ok (.iload 4, 2) := by decide +kernel
theorem dX2_fieldSlot_33 : decode cX2_fieldSlot 33 = .ok (.iaload, 1) := by decide +kernel
theorem dX2_fieldSlot_34 : decode cX2_fieldSlot 34 = .ok (.if_icmp .ge 37, 3) := by decide +kernel
theorem dX2_fieldSlot_37 : decode cX2_fieldSlot 37 = .ok (.aload_n 0, 1) := by decide +kernel
theorem dX2_fieldSlot_38 : decode cX2_fieldSlot 38 = .ok (.getfield 30, 3) := by decide +kernel
theorem dX2_fieldSlot_41 : decode cX2_fieldSlot 41 = .ok (.iload 4, 2) := by decide +kernel
theorem dX2_fieldSlot_43 : decode cX2_fieldSlot 43 = .ok (.iconst 4, 1) := by decide +kernel
theorem dX2_fieldSlot_44 : decode cX2_fieldSlot 44 = .ok (.imul, 1) := by decide +kernel
theorem dX2_fieldSlot_45 : decode cX2_fieldSlot 45 = .ok (.iload 6, 2) := by decide +kernel
theorem dX2_fieldSlot_47 : decode cX2_fieldSlot 47 = .ok (.iadd, 1) := by decide +kernel
theorem dX2_fieldSlot_48 : decode cX2_fieldSlot 48 = .ok (.laload, 1) := by decide +kernel
theorem dX2_fieldSlot_49 : decode cX2_fieldSlot 49 = .ok (.lload_n 2, 1) := by decide +kernel
theorem dX2_fieldSlot_50 : decode cX2_fieldSlot 50 = .ok (.lcmp, 1) := by decide +kernel
theorem dX2_fieldSlot_51 : decode cX2_fieldSlot 51 = .ok (.ifCond .ne 14, 3) := by decide +kernel
theorem dX2_fieldSlot_54 : decode cX2_fieldSlot 54 = .ok (.aload_n 0, 1) := by decide +kernel
theorem dX2_fieldSlot_55 : decode cX2_fieldSlot 55 = .ok (.getfield 36, 3) := by decide +kernel
theorem dX2_fieldSlot_58 : decode cX2_fieldSlot 58 = .ok (.iload 4, 2) := by decide +kernel
theorem dX2_fieldSlot_60 : decode cX2_fieldSlot 60 = .ok (.iaload, 1) := by decide +kernel
theorem dX2_fieldSlot_61 : decode cX2_fieldSlot 61 = .ok (.iload 6, 2) := by decide +kernel
theorem dX2_fieldSlot_63 : decode cX2_fieldSlot 63 = .ok (.iadd, 1) := by decide +kernel
theorem dX2_fieldSlot_64 : decode cX2_fieldSlot 64 = .ok (.ireturn, 1) := by decide +kernel
theorem dX2_fieldSlot_65 : decode cX2_fieldSlot 65 = .ok (.iinc 6 1, 3) := by decide +kernel
theorem dX2_fieldSlot_68 : decode cX2_fieldSlot 68 = .ok (.goto (-43), 3) := by decide +kernel
theorem dX2_fieldSlot_71 : decode cX2_fieldSlot 71 = .ok (.aload_n 0, 1) := by decide +kernel
theorem dX2_fieldSlot_72 : decode cX2_fieldSlot 72 = .ok (.getfield 26, 3) := by decide +kernel
theorem dX2_fieldSlot_75 : decode cX2_fieldSlot 75 = .ok (.iload 4, 2) := by decide +kernel
theorem dX2_fieldSlot_77 : decode cX2_fieldSlot 77 = .ok (.iaload, 1) := by decide +kernel
theorem dX2_fieldSlot_78 : decode cX2_fieldSlot 78 = .ok (.istore 4, 2) := by decide +kernel
theorem dX2_fieldSlot_80 : decode cX2_fieldSlot 80 = .ok (.iinc 5 1, 3) := by decide +kernel
theorem dX2_fieldSlot_83 : decode cX2_fieldSlot 83 = .ok (.goto (-77), 3) := by decide +kernel
theorem dX2_fieldSlot_86 : decode cX2_fieldSlot 86 = .ok (.iconst (-1), 1) := by decide +kernel
theorem dX2_fieldSlot_87 : decode cX2_fieldSlot 87 = .ok (.ireturn, 1) := by decide +kernel
theorem dX2_methodCount_0 : decode cX2_methodCount 0 = .ok (.aload_n 0, 1) := by decide +kernel
theorem dX2_methodCount_1 : decode cX2_methodCount 1 = .ok (.iload_n 1, 1) := by decide +kernel
theorem dX2_methodCount_2 : decode cX2_methodCount 2 = .ok (.invokevirtual 83, 3) := by decide +kernel
theorem dX2_methodCount_5 : decode cX2_methodCount 5 = .ok (.ifCond .eq 12, 3) := by decide +kernel
theorem dX2_methodCount_8 : decode cX2_methodCount 8 = .ok (.aload_n 0, 1) := by decide +kernel
theorem dX2_methodCount_9 : decode cX2_methodCount 9 = .ok (.getfield 42, 3) := by decide +kernel
theorem dX2_methodCount_12 : decode cX2_methodCount 12 = .ok (.iload_n 1, 1) := by decide +kernel
theorem dX2_methodCount_13 : decode cX2_methodCount 13 = .ok (.iaload, 1) := by decide +kernel
theorem dX2_methodCount_14 : decode cX2_methodCount 14 = .ok (.goto 4, 3) := by decide +kernel
theorem dX2_methodCount_17 : decode cX2_methodCount 17 = .ok (.iconst 0, 1) := by decide +kernel
theorem dX2_methodCount_18 : decode cX2_methodCount 18 = .ok (.ireturn, 1) := by decide +kernel
theorem dX2_addMethod_0 : decode cX2_addMethod 0 = .ok (.aload_n 0, 1) := by decide +kernel
theorem dX2_addMethod_1 : decode cX2_addMethod 1 = .ok (.iload_n 1, 1) := by decide +kernel
theorem dX2_addMethod_2 : decode cX2_addMethod 2 = .ok (.invokevirtual 83, 3) := by decide +kernel
theorem dX2_addMethod_5 : decode cX2_addMethod 5 = .ok (.ifCond .eq 41, 3) := by decide +kernel
theorem dX2_addMethod_8 : decode cX2_addMethod 8 = .ok (.aload_n 0, 1) := by decide +kernel
theorem dX2_addMethod_9 : decode cX2_addMethod 9 = .ok (.getfield 42, 3) := by decide +kernel
theorem dX2_addMethod_12 : decode cX2_addMethod 12 = .ok (.iload_n 1, 1) := by decide +kernel
theorem dX2_addMethod_13 : decode cX2_addMethod 13 = .ok (.iaload, 1) := by decide +kernel
theorem dX2_addMethod_14 : decode cX2_addMethod 14 = .ok (.bipush 12, 2) := by decide +kernel
theorem dX2_addMethod_16 : decode cX2_addMethod 16 = .ok (.if_icmp .ge 30, 3) := by decide +kernel
theorem dX2_addMethod_19 : decode cX2_addMethod 19 = .ok (.aload_n 0, 1) := by decide +kernel
theorem dX2_addMethod_20 : decode cX2_addMethod 20 = .ok (.getfield 39, 3) := by decide +kernel
theorem dX2_addMethod_23 : decode cX2_addMethod 23 = .ok (.iload_n 1, 1) := by decide +kernel
theorem dX2_addMethod_24 : decode cX2_addMethod 24 = .ok (.bipush 12, 2) := by decide +kernel
theorem dX2_addMethod_26 : decode cX2_addMethod 26 = .ok (.imul, 1) := by decide +kernel
theorem dX2_addMethod_27 : decode cX2_addMethod 27 = .ok (.aload_n 0, 1) := by decide +kernel
theorem dX2_addMethod_28 : decode cX2_addMethod 28 = .ok (.getfield 42, 3) := by decide +kernel
theorem dX2_addMethod_31 : decode cX2_addMethod 31 = .ok (.iload_n 1, 1) := by decide +kernel
theorem dX2_addMethod_32 : decode cX2_addMethod 32 = .ok (.iaload, 1) := by decide +kernel
theorem dX2_addMethod_33 : decode cX2_addMethod 33 = .ok (.iadd, 1) := by decide +kernel
theorem dX2_addMethod_34 : decode cX2_addMethod 34 = .ok (.iload_n 2, 1) := by decide +kernel
theorem dX2_addMethod_35 : decode cX2_addMethod 35 = .ok (.iastore, 1) := by decide +kernel
theorem dX2_addMethod_36 : decode cX2_addMethod 36 = .ok (.aload_n 0, 1) := by decide +kernel
theorem dX2_addMethod_37 : decode cX2_addMethod 37 = .ok (.getfield 42, 3) := by decide +kernel
theorem dX2_addMethod_40 : decode cX2_addMethod 40 = .ok (.iload_n 1, 1) := by decide +kernel
theorem dX2_addMethod_41 : decode cX2_addMethod 41 = .ok (.dup2, 1) := by decide +kernel
theorem dX2_addMethod_42 : decode cX2_addMethod 42 = .ok (.iaload, 1) := by decide +kernel
theorem dX2_addMethod_43 : decode cX2_addMethod 43 = .ok (.iconst 1, 1) := by decide +kernel
theorem dX2_addMethod_44 : decode cX2_addMethod 44 = .ok (.iadd, 1) := by decide +kernel
theorem dX2_addMethod_45 : decode cX2_addMethod 45 = .ok (.iastore, 1) := by decide +kernel
theorem dX2_addMethod_46 : decode cX2_addMethod 46 = .ok (.return_, 1) := by decide +kernel
theorem dX2_ownMethod_0 : decode cX2_ownMethod 0 = .ok (.iload_n 1, 1) := by decide +kernel
theorem dX2_ownMethod_1 : decode cX2_ownMethod 1 = .ok (.ifCond .lt 20, 3) := by decide +kernel
theorem dX2_ownMethod_4 : decode cX2_ownMethod 4 = .ok (.iload_n 1, 1) := by decide +kernel
theorem dX2_ownMethod_5 : decode cX2_ownMethod 5 = .ok (.aload_n 0, 1) := by decide +kernel
theorem dX2_ownMethod_6 : decode cX2_ownMethod 6 = .ok (.getfield 63, 3) := by decide +kernel
theorem dX2_ownMethod_9 : decode cX2_ownMethod 9 = .ok (.if_icmp .ge 12, 3) := by decide +kernel
theorem dX2_ownMethod_12 : decode cX2_ownMethod 12 = .ok (.aload_n 0, 1) := by decide +kernel
theorem dX2_ownMethod_13 : decode cX2_ownMethod 13 = .ok (.getfield 42, 3) := by decide +kernel
theorem dX2_ownMethod_16 : decode cX2_ownMethod 16 = .ok (.iload_n 1, 1) := by decide +kernel
theorem dX2_ownMethod_17 : decode cX2_ownMethod 17 = .ok (.iaload, 1) := by decide +kernel
theorem dX2_ownMethod_18 : decode cX2_ownMethod 18 = .ok (.goto 4, 3) := by decide +kernel
theorem dX2_ownMethod_21 : decode cX2_ownMethod 21 = .ok (.iconst 0, 1) := by decide +kernel
theorem dX2_ownMethod_22 : decode cX2_ownMethod 22 = .ok (.istore 5, 2) := by decide +kernel
theorem dX2_ownMethod_24 : decode cX2_ownMethod 24 = .ok (.iconst 0, 1) := by decide +kernel
theorem dX2_ownMethod_25 : decode cX2_ownMethod 25 = .ok (.istore 6, 2) := by decide +kernel
theorem dX2_ownMethod_27 : decode cX2_ownMethod 27 = .ok (.iload 6, 2) := by decide +kernel
theorem dX2_ownMethod_29 : decode cX2_ownMethod 29 = .ok (.iload 5, 2) := by decide +kernel
theorem dX2_ownMethod_31 : decode cX2_ownMethod 31 = .ok (.if_icmp .ge 54, 3) := by decide +kernel
theorem dX2_ownMethod_34 : decode cX2_ownMethod 34 = .ok (.aload_n 0, 1) := by decide +kernel
theorem dX2_ownMethod_35 : decode cX2_ownMethod 35 = .ok (.getfield 39, 3) := by decide +kernel
theorem dX2_ownMethod_38 : decode cX2_ownMethod 38 = .ok (.iload_n 1, 1) := by decide +kernel
theorem dX2_ownMethod_39 : decode cX2_ownMethod 39 = .ok (.bipush 12, 2) := by decide +kernel
theorem dX2_ownMethod_41 : decode cX2_ownMethod 41 = .ok (.imul, 1) := by decide +kernel
theorem dX2_ownMethod_42 : decode cX2_ownMethod 42 = .ok (.iload 6, 2) := by decide +kernel
theorem dX2_ownMethod_44 : decode cX2_ownMethod 44 = .ok (.iadd, 1) := by decide +kernel
theorem dX2_ownMethod_45 : decode cX2_ownMethod 45 = .ok (.iaload, 1) := by decide +kernel
theorem dX2_ownMethod_46 : decode cX2_ownMethod 46 = .ok (.istore 7, 2) := by decide +kernel
theorem dX2_ownMethod_48 : decode cX2_ownMethod 48 = .ok (.aload_n 0, 1) := by decide +kernel
theorem dX2_ownMethod_49 : decode cX2_ownMethod 49 = .ok (.iload 7, 2) := by decide +kernel
theorem dX2_ownMethod_51 : decode cX2_ownMethod 51 = .ok (.invokevirtual 90, 3) := by decide +kernel
theorem dX2_ownMethod_54 : decode cX2_ownMethod 54 = .ok (.getfield 94, 3) := by decide +kernel
theorem dX2_ownMethod_57 : decode cX2_ownMethod 57 = .ok (.lload_n 2, 1) := by decide +kernel
theorem dX2_ownMethod_58 : decode cX2_ownMethod 58 = .ok (.lcmp, 1) := by decide +kernel
theorem dX2_ownMethod_59 : decode cX2_ownMethod 59 = .ok (.ifCond .ne 20, 3) := by decide +kernel
theorem dX2_ownMethod_62 : decode cX2_ownMethod 62 = .ok (.aload_n 0, 1) := by decide +kernel
theorem dX2_ownMethod_63 : decode cX2_ownMethod 63 = .ok (.iload 7, 2) := by decide +kernel
theorem dX2_ownMethod_65 : decode cX2_ownMethod 65 = .ok (.invokevirtual 90, 3) := by decide +kernel
theorem dX2_ownMethod_68 : decode cX2_ownMethod 68 = .ok (.getfield 98, 3) := by decide +kernel
theorem dX2_ownMethod_71 : decode cX2_ownMethod 71 = .ok (.iload 4, 2) := by decide +kernel
theorem dX2_ownMethod_73 : decode cX2_ownMethod 73 = .ok (.if_icmp .ne 6, 3) := by decide +kernel
theorem dX2_ownMethod_76 : decode cX2_ownMethod 76 = .ok (.iload 7, 2) := by decide +kernel
theorem dX2_ownMethod_78 : decode cX2_ownMethod 78 = .ok (.ireturn, 1) := by decide +kernel
theorem dX2_ownMethod_79 : decode cX2_ownMethod 79 = .ok (.iinc 6 1, 3) := by decide +kernel
theorem dX2_ownMethod_82 : decode cX2_ownMethod 82 = .ok (.goto (-55), 3) := by decide +kernel
theorem dX2_ownMethod_85 : decode cX2_ownMethod 85 = .ok (.iconst (-1), 1) := by decide +kernel
theorem dX2_ownMethod_86 : decode cX2_ownMethod 86 = .ok (.ireturn, 1) := by decide +kernel
theorem dX2_findMethod_0 : decode cX2_findMethod 0 = .ok (.iload_n 1, 1) := by decide +kernel
theorem dX2_findMethod_1 : decode cX2_findMethod 1 = .ok (.istore 5, 2) := by decide +kernel
theorem dX2_findMethod_3 : decode cX2_findMethod 3 = .ok (.iconst (-1), 1) := by decide +kernel
theorem dX2_findMethod_4 : decode cX2_findMethod 4 = .ok (.istore 6, 2) := by decide +kernel
theorem dX2_findMethod_6 : decode cX2_findMethod 6 = .ok (.iconst 0, 1) := by decide +kernel
theorem dX2_findMethod_7 : decode cX2_findMethod 7 = .ok (.istore 7, 2) := by decide +kernel
theorem dX2_findMethod_9 : decode cX2_findMethod 9 = .ok (.iload 7, 2) := by decide +kernel
theorem dX2_findMethod_11 : decode cX2_findMethod 11 = .ok (.bipush 8, 2) := by decide +kernel
theorem dX2_findMethod_13 : decode cX2_findMethod 13 = .ok (.if_icmp .ge 44, 3) := by decide +kernel
theorem dX2_findMethod_16 : decode cX2_findMethod 16 = .ok (.aload_n 0, 1) := by decide +kernel
theorem dX2_findMethod_17 : decode cX2_findMethod 17 = .ok (.iload 5, 2) := by decide +kernel
theorem dX2_findMethod_19 : decode cX2_findMethod 19 = .ok (.invokevirtual 83, 3) := by decide +kernel
theorem dX2_findMethod_22 : decode cX2_findMethod 22 = .ok (.ifCond .eq 35, 3) := by decide +kernel
theorem dX2_findMethod_25 : decode cX2_findMethod 25 = .ok (.iload 6, 2) := by decide +kernel
theorem dX2_findMethod_27 : decode cX2_findMethod 27 = .ok (.iconst (-1), 1) := by decide +kernel
theorem dX2_findMethod_28 : decode cX2_findMethod 28 = .ok (.if_icmp .ne 29, 3) := by decide +kernel
theorem dX2_findMethod_31 : decode cX2_findMethod 31 = .ok (.aload_n 0, 1) := by decide +kernel
theorem dX2_findMethod_32 : decode cX2_findMethod 32 = .ok (.iload 5, 2) := by decide +kernel
theorem dX2_findMethod_34 : decode cX2_findMethod 34 = .ok (.lload_n 2, 1) := by decide +kernel
theorem dX2_findMethod_35 : decode cX2_findMethod 35 = .ok (.iload 4, 2) := by decide +kernel
theorem dX2_findMethod_37 : decode cX2_findMethod 37 = .ok (.invokevirtual 101, 3) := by decide +kernel
theorem dX2_findMethod_40 : decode cX2_findMethod 40 = .ok (.istore 6, 2) := by decide +kernel
theorem dX2_findMethod_42 : decode cX2_findMethod 42 = .ok (.aload_n 0, 1) := by decide +kernel
theorem dX2_findMethod_43 : decode cX2_findMethod 43 = .ok (.getfield 26, 3) := by decide +kernel
theorem dX2_findMethod_46 : decode cX2_findMethod 46 = .ok (.iload 5, 2) := by decide +kernel
theorem dX2_findMethod_48 : decode cX2_findMethod 48 = .ok (.iaload, 1) := by decide +kernel
theorem dX2_findMethod_49 : decode cX2_findMethod 49 = .ok (.istore 5, 2) := by decide +kernel
theorem dX2_findMethod_51 : decode cX2_findMethod 51 = .ok (.iinc 7 1, 3) := by decide +kernel
theorem dX2_findMethod_54 : decode cX2_findMethod 54 = .ok (.goto (-45), 3) := by decide +kernel
theorem dX2_findMethod_57 : decode cX2_findMethod 57 = .ok (.iload 6, 2) := by decide +kernel
theorem dX2_findMethod_59 : decode cX2_findMethod 59 = .ok (.ireturn, 1) := by decide +kernel
theorem dX2_numberIndex_0 : decode cX2_numberIndex 0 = .ok (.iconst 0, 1) := by decide +kernel
theorem dX2_numberIndex_1 : decode cX2_numberIndex 1 = .ok (.istore_n 2, 1) := by decide +kernel
theorem dX2_numberIndex_2 : decode cX2_numberIndex 2 = .ok (.iload_n 2, 1) := by decide +kernel
theorem dX2_numberIndex_3 : decode cX2_numberIndex 3 = .ok (.aload_n 0, 1) := by decide +kernel
theorem dX2_numberIndex_4 : decode cX2_numberIndex 4 = .ok (.getfield 66, 3) := by decide +kernel
theorem dX2_numberIndex_7 : decode cX2_numberIndex 7 = .ok (.if_icmp .ge 21, 3) := by decide +kernel
theorem dX2_numberIndex_10 : decode cX2_numberIndex 10 = .ok (.aload_n 0, 1) := by decide +kernel
theorem dX2_numberIndex_11 : decode cX2_numberIndex 11 = .ok (.getfield 45, 3) := by decide +kernel
theorem dX2_numberIndex_14 : decode cX2_numberIndex 14 = .ok (.iload_n 2, 1) := by decide +kernel
theorem dX2_numberIndex_15 : decode cX2_numberIndex 15 = .ok (.iaload, 1) := by decide +kernel
theorem dX2_numberIndex_16 : decode cX2_numberIndex 16 = .ok (.iload_n 1, 1) := by decide +kernel
theorem dX2_numberIndex_17 : decode cX2_numberIndex 17 = .ok (.if_icmp .ne 5, 3) := by decide +kernel
theorem dX2_numberIndex_20 : decode cX2_numberIndex 20 = .ok (.iload_n 2, 1) := by decide +kernel
theorem dX2_numberIndex_21 : decode cX2_numberIndex 21 = .ok (.ireturn, 1) := by decide +kernel
theorem dX2_numberIndex_22 : decode cX2_numberIndex 22 = .ok (.iinc 2 1, 3) := by decide +kernel
theorem dX2_numberIndex_25 : decode cX2_numberIndex 25 = .ok (.goto (-23), 3) := by decide +kernel
theorem dX2_numberIndex_28 : decode cX2_numberIndex 28 = .ok (.aload_n 0, 1) := by decide +kernel
theorem dX2_numberIndex_29 : decode cX2_numberIndex 29 = .ok (.getfield 66, 3) := by decide +kernel
theorem dX2_numberIndex_32 : decode cX2_numberIndex 32 = .ok (.sipush 400, 3) := by decide +kernel
theorem dX2_numberIndex_35 : decode cX2_numberIndex 35 = .ok (.if_icmp .ge 23, 3) := by decide +kernel
theorem dX2_numberIndex_38 : decode cX2_numberIndex 38 = .ok (.aload_n 0, 1) := by decide +kernel
theorem dX2_numberIndex_39 : decode cX2_numberIndex 39 = .ok (.getfield 45, 3) := by decide +kernel
theorem dX2_numberIndex_42 : decode cX2_numberIndex 42 = .ok (.aload_n 0, 1) := by decide +kernel
theorem dX2_numberIndex_43 : decode cX2_numberIndex 43 = .ok (.getfield 66, 3) := by decide +kernel
theorem dX2_numberIndex_46 : decode cX2_numberIndex 46 = .ok (.iload_n 1, 1) := by decide +kernel
theorem dX2_numberIndex_47 : decode cX2_numberIndex 47 = .ok (.iastore, 1) := by decide +kernel
theorem dX2_numberIndex_48 : decode cX2_numberIndex 48 = .ok (.aload_n 0, 1) := by decide +kernel
theorem dX2_numberIndex_49 : decode cX2_numberIndex 49 = .ok (.dup, 1) := by decide +kernel
theorem dX2_numberIndex_50 : decode cX2_numberIndex 50 = .ok (.getfield 66, 3) := by decide +kernel
theorem dX2_numberIndex_53 : decode cX2_numberIndex 53 = .ok (.iconst 1, 1) := by decide +kernel
theorem dX2_numberIndex_54 : decode cX2_numberIndex 54 = .ok (.iadd, 1) := by decide +kernel
theorem dX2_numberIndex_55 : decode cX2_numberIndex 55 = .ok (.putfield 66, 3) := by decide +kernel
theorem dX2_numberIndex_58 : decode cX2_numberIndex 58 = .ok (.aload_n 0, 1) := by decide +kernel
theorem dX2_numberIndex_59 : decode cX2_numberIndex 59 = .ok (.getfield 66, 3) := by decide +kernel
theorem dX2_numberIndex_62 : decode cX2_numberIndex 62 = .ok (.iconst 1, 1) := by decide +kernel
theorem dX2_numberIndex_63 : decode cX2_numberIndex 63 = .ok (.isub, 1) := by decide +kernel
theorem dX2_numberIndex_64 : decode cX2_numberIndex 64 = .ok (.ireturn, 1) := by decide +kernel
theorem dX2_numberAt_0 : decode cX2_numberAt 0 = .ok (.iload_n 1, 1) := by decide +kernel
theorem dX2_numberAt_1 : decode cX2_numberAt 1 = .ok (.ifCond .lt 20, 3) := by decide +kernel
theorem dX2_numberAt_4 : decode cX2_numberAt 4 = .ok (.iload_n 1, 1) := by decide +kernel
theorem dX2_numberAt_5 : decode cX2_numberAt 5 = .ok (.aload_n 0, 1) := by decide +kernel
theorem dX2_numberAt_6 : decode cX2_numberAt 6 = .ok (.getfield 66, 3) := by decide +kernel
theorem dX2_numberAt_9 : decode cX2_numberAt 9 = .ok (.if_icmp .ge 12, 3) := by decide +kernel
theorem dX2_numberAt_12 : decode cX2_numberAt 12 = .ok (.aload_n 0, 1) := by decide +kernel
theorem dX2_numberAt_13 : decode cX2_numberAt 13 = .ok (.getfield 45, 3) := by decide +kernel
theorem dX2_numberAt_16 : decode cX2_numberAt 16 = .ok (.iload_n 1, 1) := by decide +kernel
theorem dX2_numberAt_17 : decode cX2_numberAt 17 = .ok (.iaload, 1) := by decide +kernel
theorem dX2_numberAt_18 : decode cX2_numberAt 18 = .ok (.goto 4, 3) := by decide +kernel
theorem dX2_numberAt_21 : decode cX2_numberAt 21 = .ok (.iconst 0, 1) := by decide +kernel
theorem dX2_numberAt_22 : decode cX2_numberAt 22 = .ok (.ireturn, 1) := by decide +kernel
theorem dX2_nameIndex_0 : decode cX2_nameIndex 0 = .ok (.iconst 0, 1) := by decide +kernel
theorem dX2_nameIndex_1 : decode cX2_nameIndex 1 = .ok (.istore_n 3, 1) := by decide +kernel
theorem dX2_nameIndex_2 : decode cX2_nameIndex 2 = .ok (.iload_n 3, 1) := by decide +kernel
theorem dX2_nameIndex_3 : decode cX2_nameIndex 3 = .ok (.aload_n 0, 1) := by decide +kernel
theorem dX2_nameIndex_4 : decode cX2_nameIndex 4 = .ok (.getfield 69, 3) := by decide +kernel
theorem dX2_nameIndex_7 : decode cX2_nameIndex 7 = .ok (.if_icmp .ge 22, 3) := by decide +kernel
theorem dX2_nameIndex_10 : decode cX2_nameIndex 10 = .ok (.aload_n 0, 1) := by decide +kernel
theorem dX2_nameIndex_11 : decode cX2_nameIndex 11 = .ok (.getfield 48, 3) := by decide +kernel
theorem dX2_nameIndex_14 : decode cX2_nameIndex 14 = .ok (.iload_n 3, 1) := by decide +kernel
theorem dX2_nameIndex_15 : decode cX2_nameIndex 15 = .ok (.laload, 1) := by decide +kernel
theorem dX2_nameIndex_16 : decode cX2_nameIndex 16 = .ok (.lload_n 1, 1) := by decide +kernel
theorem dX2_nameIndex_17 : decode cX2_nameIndex 17 = .ok (.lcmp, 1) := by decide +kernel
theorem dX2_nameIndex_18 : decode cX2_nameIndex 18 = .ok (.ifCond .ne 5, 3) := by decide +kernel
theorem dX2_nameIndex_21 : decode cX2_nameIndex 21 = .ok (.iload_n 3, 1) := by decide +kernel
theorem dX2_nameIndex_22 : decode cX2_nameIndex 22 = .ok (.ireturn, 1) := by decide +kernel
theorem dX2_nameIndex_23 : decode cX2_nameIndex 23 = .ok (.iinc 3 1, 3) := by decide +kernel
theorem dX2_nameIndex_26 : decode cX2_nameIndex 26 = .ok (.goto (-24), 3) := by decide +kernel
theorem dX2_nameIndex_29 : decode cX2_nameIndex 29 = .ok (.aload_n 0, 1) := by decide +kernel
theorem dX2_nameIndex_30 : decode cX2_nameIndex 30 = .ok (.getfield 69, 3) := by decide +kernel
theorem dX2_nameIndex_33 : decode cX2_nameIndex 33 = .ok (.sipush 400, 3) := by decide +kernel
theorem dX2_nameIndex_36 : decode cX2_nameIndex 36 = .ok (.if_icmp .ge 23, 3) := by decide +kernel
theorem dX2_nameIndex_39 : decode cX2_nameIndex 39 = .ok (.aload_n 0, 1) := by decide +kernel
theorem dX2_nameIndex_40 : decode cX2_nameIndex 40 = .ok (.getfield 48, 3) := by decide +kernel
theorem dX2_nameIndex_43 : decode cX2_nameIndex 43 = .ok (.aload_n 0, 1) := by decide +kernel
theorem dX2_nameIndex_44 : decode cX2_nameIndex 44 = .ok (.getfield 69, 3) := by decide +kernel
theorem dX2_nameIndex_47 : decode cX2_nameIndex 47 = .ok (.lload_n 1, 1) := by decide +kernel
theorem dX2_nameIndex_48 : decode cX2_nameIndex 48 = .ok (.lastore, 1) := by decide +kernel
theorem dX2_nameIndex_49 : decode cX2_nameIndex 49 = .ok (.aload_n 0, 1) := by decide +kernel
theorem dX2_nameIndex_50 : decode cX2_nameIndex 50 = .ok (.dup, 1) := by decide +kernel
theorem dX2_nameIndex_51 : decode cX2_nameIndex 51 = .ok (.getfield 69, 3) := by decide +kernel
theorem dX2_nameIndex_54 : decode cX2_nameIndex 54 = .ok (.iconst 1, 1) := by decide +kernel
theorem dX2_nameIndex_55 : decode cX2_nameIndex 55 = .ok (.iadd, 1) := by decide +kernel
theorem dX2_nameIndex_56 : decode cX2_nameIndex 56 = .ok (.putfield 69, 3) := by decide +kernel
theorem dX2_nameIndex_59 : decode cX2_nameIndex 59 = .ok (.aload_n 0, 1) := by decide +kernel
theorem dX2_nameIndex_60 : decode cX2_nameIndex 60 = .ok (.getfield 69, 3) := by decide +kernel
theorem dX2_nameIndex_63 : decode cX2_nameIndex 63 = .ok (.iconst 1, 1) := by decide +kernel
theorem dX2_nameIndex_64 : decode cX2_nameIndex 64 = .ok (.isub, 1) := by decide +kernel
theorem dX2_nameIndex_65 : decode cX2_nameIndex 65 = .ok (.ireturn, 1) := by decide +kernel
theorem dX2_nameAt_0 : decode cX2_nameAt 0 = .ok (.iload_n 1, 1) := by decide +kernel
theorem dX2_nameAt_1 : decode cX2_nameAt 1 = .ok (.ifCond .lt 20, 3) := by decide +kernel
theorem dX2_nameAt_4 : decode cX2_nameAt 4 = .ok (.iload_n 1, 1) := by decide +kernel
theorem dX2_nameAt_5 : decode cX2_nameAt 5 = .ok (.aload_n 0, 1) := by decide +kernel
theorem dX2_nameAt_6 : decode cX2_nameAt 6 = .ok (.getfield 69, 3) := by decide +kernel
theorem dX2_nameAt_9 : decode cX2_nameAt 9 = .ok (.if_icmp .ge 12, 3) := by decide +kernel
theorem dX2_nameAt_12 : decode cX2_nameAt 12 = .ok (.aload_n 0, 1) := by decide +kernel
theorem dX2_nameAt_13 : decode cX2_nameAt 13 = .ok (.getfield 48, 3) := by decide +kernel
theorem dX2_nameAt_16 : decode cX2_nameAt 16 = .ok (.iload_n 1, 1) := by decide +kernel
theorem dX2_nameAt_17 : decode cX2_nameAt 17 = .ok (.laload, 1) := by decide +kernel
theorem dX2_nameAt_18 : decode cX2_nameAt 18 = .ok (.goto 4, 3) := by decide +kernel
theorem dX2_nameAt_21 : decode cX2_nameAt 21 = .ok (.lconst 0, 1) := by decide +kernel
theorem dX2_nameAt_22 : decode cX2_nameAt 22 = .ok (.lreturn, 1) := by decide +kernel
theorem dX2_groupOf_0 : decode cX2_groupOf 0 = .ok (.iconst 0, 1) := by decide +kernel
theorem dX2_groupOf_1 : decode cX2_groupOf 1 = .ok (.istore 5, 2) := by decide +kernel
theorem dX2_groupOf_3 : decode cX2_groupOf 3 = .ok (.iload 5, 2) := by decide +kernel
theorem dX2_groupOf_5 : decode cX2_groupOf 5 = .ok (.aload_n 0, 1) := by decide +kernel
theorem dX2_groupOf_6 : decode cX2_groupOf 6 = .ok (.getfield 59, 3) := by decide +kernel
theorem dX2_groupOf_9 : decode cX2_groupOf 9 = .ok (.if_icmp .ge 55, 3) := by decide +kernel
theorem dX2_groupOf_12 : decode cX2_groupOf 12 = .ok (.aload_n 0, 1) := by decide +kernel
theorem dX2_groupOf_13 : decode cX2_groupOf 13 = .ok (.getfield 17, 3) := by decide +kernel
theorem dX2_groupOf_16 : decode cX2_groupOf 16 = .ok (.iload 5, 2) := by decide +kernel
theorem dX2_groupOf_18 : decode cX2_groupOf 18 = .ok (.aaload, 1) := by decide +kernel
theorem dX2_groupOf_19 : decode cX2_groupOf 19 = .ok (.astore 6, 2) := by decide +kernel
theorem dX2_groupOf_21 : decode cX2_groupOf 21 = .ok (.aload 6, 2) := by decide +kernel
theorem dX2_groupOf_23 : decode cX2_groupOf 23 = .ok (.getfield 105, 3) := by decide +kernel
theorem dX2_groupOf_26 : decode cX2_groupOf 26 = .ok (.iload_n 1, 1) := by decide +kernel
theorem dX2_groupOf_27 : decode cX2_groupOf 27 = .ok (.if_icmp .ne 31, 3) := by decide +kernel
theorem dX2_groupOf_30 : decode cX2_groupOf 30 = .ok (.aload 6, 2) := by decide +kernel
theorem dX2_groupOf_32 : decode cX2_groupOf 32 = .ok (.getfield 98, 3) := by decide +kernel
theorem dX2_groupOf_35 : decode cX2_groupOf 35 = .ok (.iload 4, 2) := by decide +kernel
theorem dX2_groupOf_37 : decode cX2_groupOf 37 = .ok (.if_icmp .ne 21, 3) := by decide +kernel
theorem dX2_groupOf_40 : decode cX2_groupOf 40 = .ok (.iload_n 1, 1) := by decide +kernel
theorem dX2_groupOf_41 : decode cX2_groupOf 41 = .ok (.iconst 1, 1) := by decide +kernel
theorem dX2_groupOf_42 : decode cX2_groupOf 42 = .ok (.if_icmp .eq 13, 3) := by decide +kernel
theorem dX2_groupOf_45 : decode cX2_groupOf 45 = .ok (.aload 6, 2) := by decide +kernel
theorem dX2_groupOf_47 : decode cX2_groupOf 47 = .ok (.getfield 94, 3) := by decide +kernel
theorem dX2_groupOf_50 : decode cX2_groupOf 50 = .ok (.lload_n 2, 1) := by decide +kernel
theorem dX2_groupOf_51 : decode cX2_groupOf 51 = .ok (.lcmp, 1) := by decide +kernel
theorem dX2_groupOf_52 : decode cX2_groupOf 52 = .ok (.ifCond .ne 6, 3) := by decide +kernel
theorem dX2_groupOf_55 : decode cX2_groupOf 55 = .ok (.iload 5, 2) := by decide +kernel
theorem dX2_groupOf_57 : decode cX2_groupOf 57 = .ok (.ireturn, 1) := by decide +kernel
theorem dX2_groupOf_58 : decode cX2_groupOf 58 = .ok (.iinc 5 1, 3) := by decide +kernel
theorem dX2_groupOf_61 : decode cX2_groupOf 61 = .ok (.goto (-58), 3) := by decide +kernel
theorem dX2_groupOf_64 : decode cX2_groupOf 64 = .ok (.iconst (-1), 1) := by decide +kernel
theorem dX2_groupOf_65 : decode cX2_groupOf 65 = .ok (.ireturn, 1) := by decide +kernel
theorem dX2_settleGroups_0 : decode cX2_settleGroups 0 = .ok (.iconst 0, 1) := by decide +kernel
theorem dX2_settleGroups_1 : decode cX2_settleGroups 1 = .ok (.istore_n 1, 1) := by decide +kernel
theorem dX2_settleGroups_2 : decode cX2_settleGroups 2 = .ok (.iload_n 1, 1) := by decide +kernel
theorem dX2_settleGroups_3 : decode cX2_settleGroups 3 = .ok (.aload_n 0, 1) := by decide +kernel
theorem dX2_settleGroups_4 : decode cX2_settleGroups 4 = .ok (.getfield 59, 3) := by decide +kernel
theorem dX2_settleGroups_7 : decode cX2_settleGroups 7 = .ok (.if_icmp .ge 65, 3) := by decide +kernel
theorem dX2_settleGroups_10 : decode cX2_settleGroups 10 = .ok (.aload_n 0, 1) := by decide +kernel
theorem dX2_settleGroups_11 : decode cX2_settleGroups 11 = .ok (.getfield 17, 3) := by decide +kernel
theorem dX2_settleGroups_14 : decode cX2_settleGroups 14 = .ok (.iload_n 1, 1) := by decide +kernel
theorem dX2_settleGroups_15 : decode cX2_settleGroups 15 = .ok (.aaload, 1) := by decide +kernel
theorem dX2_settleGroups_16 : decode cX2_settleGroups 16 = .ok (.astore_n 2, 1) := by decide +kernel
theorem dX2_settleGroups_17 : decode cX2_settleGroups 17 = .ok (.aload_n 2, 1) := by decide +kernel
theorem dX2_settleGroups_18 : decode cX2_settleGroups 18 = .ok (.getfield 105, 3) := by decide +kernel
theorem dX2_settleGroups_21 : decode cX2_settleGroups 21 = .ok (.ifCond .eq 11, 3) := by decide +kernel
theorem dX2_settleGroups_24 : decode cX2_settleGroups 24 = .ok (.aload_n 2, 1) := by decide +kernel
theorem dX2_settleGroups_25 : decode cX2_settleGroups 25 = .ok (.getfield 105, 3) := by decide +kernel
theorem dX2_settleGroups_28 : decode cX2_settleGroups 28 = .ok (.iconst 1, 1) := by decide +kernel
theorem dX2_settleGroups_29 : decode cX2_settleGroups 29 = .ok (.if_icmp .ne 7, 3) := by decide +kernel
theorem dX2_settleGroups_32 : decode cX2_settleGroups 32 = .ok (.iconst 1, 1) := by decide +kernel
theorem dX2_settleGroups_33 : decode cX2_settleGroups 33 = .ok (.goto 4, 3) := by decide +kernel
theorem dX2_settleGroups_36 : decode cX2_settleGroups 36 = .ok (.iconst 0, 1) := by decide +kernel
theorem dX2_settleGroups_37 : decode cX2_settleGroups 37 = .ok (.istore_n 3, 1) := by decide +kernel
theorem dX2_settleGroups_38 : decode cX2_settleGroups 38 = .ok (.aload_n 2, 1) := by decide +kernel
theorem dX2_settleGroups_39 : decode cX2_settleGroups 39 = .ok (.iload_n 3, 1) := by decide +kernel
theorem dX2_settleGroups_40 : decode cX2_settleGroups 40 = .ok (.ifCond .eq 22, 3) := by decide +kernel
theorem dX2_settleGroups_43 : decode cX2_settleGroups 43 = .ok (.aload_n 0, 1) := by decide +kernel
theorem dX2_settleGroups_44 : decode cX2_settleGroups 44 = .ok (.aload_n 2, 1) := by decide +kernel
theorem dX2_settleGroups_45 : decode cX2_settleGroups 45 = .ok (.getfield 105, 3) := by decide +kernel
theorem dX2_settleGroups_48 : decode cX2_settleGroups 48 = .ok (.aload_n 2, 1) := by decide +kernel
theorem dX2_settleGroups_49 : decode cX2_settleGroups 49 = .ok (.getfield 94, 3) := by decide +kernel
theorem dX2_settleGroups_52 : decode cX2_settleGroups 52 = .ok (.aload_n 2, 1) := by decide +kernel
theorem dX2_settleGroups_53 : decode cX2_settleGroups 53 = .ok (.getfield 98, 3) := by decide +kernel
theorem dX2_settleGroups_56 : decode cX2_settleGroups 56 = .ok (.invokevirtual 108, 3) := by decide +kernel
theorem dX2_settleGroups_59 : decode cX2_settleGroups 59 = .ok (.goto 4, 3) := by decide +kernel
theorem dX2_settleGroups_62 : decode cX2_settleGroups 62 = .ok (.iload_n 1, 1) := by decide +kernel
theorem dX2_settleGroups_63 : decode cX2_settleGroups 63 = .ok (.putfield 111, 3) := by decide +kernel
theorem dX2_settleGroups_66 : decode cX2_settleGroups 66 = .ok (.iinc 1 1, 3) := by decide +kernel
theorem dX2_settleGroups_69 : decode cX2_settleGroups 69 = .ok (.goto (-67), 3) := by decide +kernel
theorem dX2_settleGroups_72 : decode cX2_settleGroups 72 = .ok (.return_, 1) := by decide +kernel
theorem dX2_groupBegun_0 : decode cX2_groupBegun 0 = .ok (.iload_n 1, 1) := by decide +kernel
theorem dX2_groupBegun_1 : decode cX2_groupBegun 1 = .ok (.lookupswitch 63 #[(7, 35), (8, 47), (23, 55)], 35) := by decide +kernel
theorem dX2_groupBegun_36 : decode cX2_groupBegun 36 = .ok (.aload_n 0, 1) := by decide +kernel
theorem dX2_groupBegun_37 : decode cX2_groupBegun 37 = .ok (.iconst 0, 1) := by decide +kernel
theorem dX2_groupBegun_38 : decode cX2_groupBegun 38 = .ok (.aload_n 0, 1) := by decide +kernel
theorem dX2_groupBegun_39 : decode cX2_groupBegun 39 = .ok (.iload_n 2, 1) := by decide +kernel
theorem dX2_groupBegun_40 : decode cX2_groupBegun 40 = .ok (.invokevirtual 114, 3) := by decide +kernel
theorem dX2_groupBegun_43 : decode cX2_groupBegun 43 = .ok (.iload_n 3, 1) := by decide +kernel
theorem dX2_groupBegun_44 : decode cX2_groupBegun 44 = .ok (.invokevirtual 108, 3) := by decide +kernel
theorem dX2_groupBegun_47 : decode cX2_groupBegun 47 = .ok (.ireturn, 1) := by decide +kernel
theorem dX2_groupBegun_48 : decode cX2_groupBegun 48 = .ok (.aload_n 0, 1) := by decide +kernel
theorem dX2_groupBegun_49 : decode cX2_groupBegun 49 = .ok (.iconst 1, 1) := by decide +kernel
theorem dX2_groupBegun_50 : decode cX2_groupBegun 50 = .ok (.lconst 0, 1) := by decide +kernel
theorem dX2_groupBegun_51 : decode cX2_groupBegun 51 = .ok (.iload_n 2, 1) := by decide +kernel
theorem dX2_groupBegun_52 : decode cX2_groupBegun 52 = .ok (.invokevirtual 108, 3) := by decide +kernel
theorem dX2_groupBegun_55 : decode cX2_groupBegun 55 = .ok (.ireturn, 1) := by decide +kernel
theorem dX2_groupBegun_56 : decode cX2_groupBegun 56 = .ok (.aload_n 0, 1) := by decide +kernel
theorem dX2_groupBegun_57 : decode cX2_groupBegun 57 = .ok (.iconst 1, 1) := by decide +kernel
theorem dX2_groupBegun_58 : decode cX2_groupBegun 58 = .ok (.lconst 0, 1) := by decide +kernel
theorem dX2_groupBegun_59 : decode cX2_groupBegun 59 = .ok (.iconst 0, 1) := by decide +kernel
theorem dX2_groupBegun_60 : decode cX2_groupBegun 60 = .ok (.invokevirtual 108, 3) := by decide +kernel
theorem dX2_groupBegun_63 : decode cX2_groupBegun 63 = .ok (.ireturn, 1) := by decide +kernel
theorem dX2_groupBegun_64 : decode cX2_groupBegun 64 = .ok (.iconst (-1), 1) := by decide +kernel
theorem dX2_groupBegun_65 : decode cX2_groupBegun 65 = .ok (.ireturn, 1) := by decide +kernel
theorem dX2_handsContext_0 : decode cX2_handsContext 0 = .ok (.iload_n 1, 1) := by decide +kernel
theorem dX2_handsContext_1 : decode cX2_handsContext 1 = .ok (.bipush 25, 2) := by decide +kernel
theorem dX2_handsContext_3 : decode cX2_handsContext 3 = .ok (.if_icmp .eq 15, 3) := by decide +kernel
theorem dX2_handsContext_6 : decode cX2_handsContext 6 = .ok (.iload_n 1, 1) := by decide +kernel
theorem dX2_handsContext_7 : decode cX2_handsContext 7 = .ok (.bipush 26, 2) := by decide +kernel
theorem dX2_handsContext_9 : decode cX2_handsContext 9 = .ok (.if_icmp .eq 9, 3) := by decide +kernel
theorem dX2_handsContext_12 : decode cX2_handsContext 12 = .ok (.iload_n 1, 1) := by decide +kernel
theorem dX2_handsContext_13 : decode cX2_handsContext 13 = .ok (.bipush 27, 2) := by decide +kernel
theorem dX2_handsContext_15 : decode cX2_handsContext 15 = .ok (.if_icmp .ne 5, 3) := by decide +kernel
theorem dX2_handsContext_18 : decode cX2_handsContext 18 = .ok (.iconst 1, 1) := by decide +kernel
theorem dX2_handsContext_19 : decode cX2_handsContext 19 = .ok (.ireturn, 1) := by decide +kernel
theorem dX2_handsContext_20 : decode cX2_handsContext 20 = .ok (.iload_n 1, 1) := by decide +kernel
theorem dX2_handsContext_21 : decode cX2_handsContext 21 = .ok (.bipush 10, 2) := by decide +kernel
theorem dX2_handsContext_23 : decode cX2_handsContext 23 = .ok (.if_icmp .ne 32, 3) := by decide +kernel
theorem dX2_handsContext_26 : decode cX2_handsContext 26 = .ok (.aload_n 0, 1) := by decide +kernel
theorem dX2_handsContext_27 : decode cX2_handsContext 27 = .ok (.iload_n 2, 1) := by decide +kernel
theorem dX2_handsContext_28 : decode cX2_handsContext 28 = .ok (.invokevirtual 90, 3) := by decide +kernel
theorem dX2_handsContext_31 : decode cX2_handsContext 31 = .ok (.getfield 105, 3) := by decide +kernel
theorem dX2_handsContext_34 : decode cX2_handsContext 34 = .ok (.iconst 3, 1) := by decide +kernel
theorem dX2_handsContext_35 : decode cX2_handsContext 35 = .ok (.if_icmp .ne 18, 3) := by decide +kernel
theorem dX2_handsContext_38 : decode cX2_handsContext 38 = .ok (.aload_n 0, 1) := by decide +kernel
theorem dX2_handsContext_39 : decode cX2_handsContext 39 = .ok (.iload_n 2, 1) := by decide +kernel
theorem dX2_handsContext_40 : decode cX2_handsContext 40 = .ok (.invokevirtual 90, 3) := by decide +kernel
theorem dX2_handsContext_43 : decode cX2_handsContext 43 = .ok (.getfield 118, 3) := by decide +kernel
theorem dX2_handsContext_46 : decode cX2_handsContext 46 = .ok (.ifCond .eq 7, 3) := by decide +kernel
theorem dX2_handsContext_49 : decode cX2_handsContext 49 = .ok (.iconst 1, 1) := by decide +kernel
theorem dX2_handsContext_50 : decode cX2_handsContext 50 = .ok (.goto 4, 3) := by decide +kernel
theorem dX2_handsContext_53 : decode cX2_handsContext 53 = .ok (.iconst 0, 1) := by decide +kernel
theorem dX2_handsContext_54 : decode cX2_handsContext 54 = .ok (.ireturn, 1) := by decide +kernel
theorem dX2_handsContext_55 : decode cX2_handsContext 55 = .ok (.aload_n 0, 1) := by decide +kernel
theorem dX2_handsContext_56 : decode cX2_handsContext 56 = .ok (.iload_n 1, 1) := by decide +kernel
theorem dX2_handsContext_57 : decode cX2_handsContext 57 = .ok (.iload_n 2, 1) := by decide +kernel
theorem dX2_handsContext_58 : decode cX2_handsContext 58 = .ok (.iload_n 3, 1) := by decide +kernel
theorem dX2_handsContext_59 : decode cX2_handsContext 59 = .ok (.invokevirtual 122, 3) := by decide +kernel
theorem dX2_handsContext_62 : decode cX2_handsContext 62 = .ok (.istore 4, 2) := by decide +kernel
theorem dX2_handsContext_64 : decode cX2_handsContext 64 = .ok (.iload 4, 2) := by decide +kernel
theorem dX2_handsContext_66 : decode cX2_handsContext 66 = .ok (.iconst (-1), 1) := by decide +kernel
theorem dX2_handsContext_67 : decode cX2_handsContext 67 = .ok (.if_icmp .eq 19, 3) := by decide +kernel
theorem dX2_handsContext_70 : decode cX2_handsContext 70 = .ok (.aload_n 0, 1) := by decide +kernel
theorem dX2_handsContext_71 : decode cX2_handsContext 71 = .ok (.iload 4, 2) := by decide +kernel
theorem dX2_handsContext_73 : decode cX2_handsContext 73 = .ok (.invokevirtual 90, 3) := by decide +kernel
theorem dX2_handsContext_76 : decode cX2_handsContext 76 = .ok (.getfield 118, 3) := by decide +kernel
theorem dX2_handsContext_79 : decode cX2_handsContext 79 = .ok (.ifCond .eq 7, 3) := by decide +kernel
theorem dX2_handsContext_82 : decode cX2_handsContext 82 = .ok (.iconst 1, 1) := by decide +kernel
theorem dX2_handsContext_83 : decode cX2_handsContext 83 = .ok (.goto 4, 3) := by decide +kernel
theorem dX2_handsContext_86 : decode cX2_handsContext 86 = .ok (.iconst 0, 1) := by decide +kernel
theorem dX2_handsContext_87 : decode cX2_handsContext 87 = .ok (.ireturn, 1) := by decide +kernel
theorem dX2_writeCode_0 : decode cX2_writeCode 0 = .ok (.aload_n 0, 1) := by decide +kernel
theorem dX2_writeCode_1 : decode cX2_writeCode 1 = .ok (.getfield 9, 3) := by decide +kernel
theorem dX2_writeCode_4 : decode cX2_writeCode 4 = .ok (.invokevirtual 126, 3) := by decide +kernel
theorem dX2_writeCode_7 : decode cX2_writeCode 7 = .ok (.iconst 0, 1) := by decide +kernel
theorem dX2_writeCode_8 : decode cX2_writeCode 8 = .ok (.istore_n 1, 1) := by decide +kernel
theorem dX2_writeCode_9 : decode cX2_writeCode 9 = .ok (.iload_n 1, 1) := by decide +kernel
theorem dX2_writeCode_10 : decode cX2_writeCode 10 = .ok (.aload_n 0, 1) := by decide +kernel
theorem dX2_writeCode_11 : decode cX2_writeCode 11 = .ok (.getfield 59, 3) := by decide +kernel
theorem dX2_writeCode_14 : decode cX2_writeCode 14 = .ok (.if_icmp .ge 39, 3) := by decide +kernel
theorem dX2_writeCode_17 : decode cX2_writeCode 17 = .ok (.aload_n 0, 1) := by decide +kernel
theorem dX2_writeCode_18 : decode cX2_writeCode 18 = .ok (.getfield 17, 3) := by decide +kernel
theorem dX2_writeCode_21 : decode cX2_writeCode 21 = .ok (.iload_n 1, 1) := by decide +kernel
theorem dX2_writeCode_22 : decode cX2_writeCode 22 = .ok (.aaload, 1) := by decide +kernel
theorem dX2_writeCode_23 : decode cX2_writeCode 23 = .ok (.aload_n 0, 1) := by decide +kernel
theorem dX2_writeCode_24 : decode cX2_writeCode 24 = .ok (.iconst 0, 1) := by decide +kernel
theorem dX2_writeCode_25 : decode cX2_writeCode 25 = .ok (.aload_n 0, 1) := by decide +kernel
theorem dX2_writeCode_26 : decode cX2_writeCode 26 = .ok (.getfield 51, 3) := by decide +kernel
theorem dX2_writeCode_29 : decode cX2_writeCode 29 = .ok (.invokevirtual 129, 3) := by decide +kernel
theorem dX2_writeCode_32 : decode cX2_writeCode 32 = .ok (.aload_n 0, 1) := by decide +kernel
theorem dX2_writeCode_33 : decode cX2_writeCode 33 = .ok (.getfield 17, 3) := by decide +kernel
theorem dX2_writeCode_36 : decode cX2_writeCode 36 = .ok (.iload_n 1, 1) := by decide +kernel
theorem dX2_writeCode_37 : decode cX2_writeCode 37 = .ok (.aaload, 1) := by decide +kernel
theorem dX2_writeCode_38 : decode cX2_writeCode 38 = .ok (.aload_n 0, 1) := by decide +kernel
theorem dX2_writeCode_39 : decode cX2_writeCode 39 = .ok (.iconst 1, 1) := by decide +kernel
theorem dX2_writeCode_40 : decode cX2_writeCode 40 = .ok (.aload_n 0, 1) := by decide +kernel
theorem dX2_writeCode_41 : decode cX2_writeCode 41 = .ok (.getfield 51, 3) := by decide +kernel
theorem dX2_writeCode_44 : decode cX2_writeCode 44 = .ok (.invokevirtual 129, 3) := by decide +kernel
theorem dX2_writeCode_47 : decode cX2_writeCode 47 = .ok (.iinc 1 1, 3) := by decide +kernel
theorem dX2_writeCode_50 : decode cX2_writeCode 50 = .ok (.goto (-41), 3) := by decide +kernel
theorem dX2_writeCode_53 : decode cX2_writeCode 53 = .ok (.return_, 1) := by decide +kernel
theorem dX2_needing_0 : decode cX2_needing 0 = .ok (.iconst 0, 1) := by decide +kernel
theorem dX2_needing_1 : decode cX2_needing 1 = .ok (.istore_n 1, 1) := by decide +kernel
theorem dX2_needing_2 : decode cX2_needing 2 = .ok (.iconst 0, 1) := by decide +kernel
theorem dX2_needing_3 : decode cX2_needing 3 = .ok (.istore_n 2, 1) := by decide +kernel
theorem dX2_needing_4 : decode cX2_needing 4 = .ok (.iload_n 2, 1) := by decide +kernel
theorem dX2_needing_5 : decode cX2_needing 5 = .ok (.aload_n 0, 1) := by decide +kernel
theorem dX2_needing_6 : decode cX2_needing 6 = .ok (.getfield 59, 3) := by decide +kernel
theorem dX2_needing_9 : decode cX2_needing 9 = .ok (.if_icmp .ge 29, 3) := by decide +kernel
theorem dX2_needing_12 : decode cX2_needing 12 = .ok (.iload_n 1, 1) := by decide +kernel
theorem dX2_needing_13 : decode cX2_needing 13 = .ok (.aload_n 0, 1) := by decide +kernel
theorem dX2_needing_14 : decode cX2_needing 14 = .ok (.getfield 17, 3) := by decide +kernel
theorem dX2_needing_17 : decode cX2_needing 17 = .ok (.iload_n 2, 1) := by decide +kernel
theorem dX2_needing_18 : decode cX2_needing 18 = .ok (.aaload, 1) := by decide +kernel
theorem dX2_needing_19 : decode cX2_needing 19 = .ok (.getfield 118, 3) := by decide +kernel
theorem dX2_needing_22 : decode cX2_needing 22 = .ok (.ifCond .eq 7, 3) := by decide +kernel
theorem dX2_needing_25 : decode cX2_needing 25 = .ok (.iconst 1, 1) := by decide +kernel
theorem dX2_needing_26 : decode cX2_needing 26 = .ok (.goto 4, 3) := by decide +kernel
theorem dX2_needing_29 : decode cX2_needing 29 = .ok (.iconst 0, 1) := by decide +kernel
theorem dX2_needing_30 : decode cX2_needing 30 = .ok (.iadd, 1) := by decide +kernel
theorem dX2_needing_31 : decode cX2_needing 31 = .ok (.istore_n 1, 1) := by decide +kernel
theorem dX2_needing_32 : decode cX2_needing 32 = .ok (.iinc 2 1, 3) := by decide +kernel
theorem dX2_needing_35 : decode cX2_needing 35 = .ok (.goto (-31), 3) := by decide +kernel
theorem dX2_needing_38 : decode cX2_needing 38 = .ok (.iload_n 1, 1) := by decide +kernel
theorem dX2_needing_39 : decode cX2_needing 39 = .ok (.ireturn, 1) := by decide +kernel
theorem dX2_sizeOf_0 : decode cX2_sizeOf 0 = .ok (.iload_n 1, 1) := by decide +kernel
theorem dX2_sizeOf_1 : decode cX2_sizeOf 1 = .ok (.tableswitch 108 0 8 #[51, 56, 61, 69, 77, 85, 93, 98, 103], 51) := by decide +kernel
theorem dX2_sizeOf_52 : decode cX2_sizeOf 52 = .ok (.aload_n 0, 1) := by decide +kernel
theorem dX2_sizeOf_53 : decode cX2_sizeOf 53 = .ok (.getfield 59, 3) := by decide +kernel
theorem dX2_sizeOf_56 : decode cX2_sizeOf 56 = .ok (.ireturn, 1) := by decide +kernel
theorem dX2_sizeOf_57 : decode cX2_sizeOf 57 = .ok (.aload_n 0, 1) := by decide +kernel
theorem dX2_sizeOf_58 : decode cX2_sizeOf 58 = .ok (.getfield 63, 3) := by decide +kernel
theorem dX2_sizeOf_61 : decode cX2_sizeOf 61 = .ok (.ireturn, 1) := by decide +kernel
theorem dX2_sizeOf_62 : decode cX2_sizeOf 62 = .ok (.aload_n 0, 1) := by decide +kernel
theorem dX2_sizeOf_63 : decode cX2_sizeOf 63 = .ok (.getfield 9, 3) := by decide +kernel
theorem dX2_sizeOf_66 : decode cX2_sizeOf 66 = .ok (.getfield 133, 3) := by decide +kernel
theorem dX2_sizeOf_69 : decode cX2_sizeOf 69 = .ok (.ireturn, 1) := by decide +kernel
theorem dX2_sizeOf_70 : decode cX2_sizeOf 70 = .ok (.aload_n 0, 1) := by decide +kernel
theorem dX2_sizeOf_71 : decode cX2_sizeOf 71 = .ok (.getfield 9, 3) := by decide +kernel
theorem dX2_sizeOf_74 : decode cX2_sizeOf 74 = .ok (.getfield 136, 3) := by decide +kernel
theorem dX2_sizeOf_77 : decode cX2_sizeOf 77 = .ok (.ireturn, 1) := by decide +kernel
theorem dX2_sizeOf_78 : decode cX2_sizeOf 78 = .ok (.aload_n 0, 1) := by decide +kernel
theorem dX2_sizeOf_79 : decode cX2_sizeOf 79 = .ok (.getfield 9, 3) := by decide +kernel
theorem dX2_sizeOf_82 : decode cX2_sizeOf 82 = .ok (.getfield 139, 3) := by decide +kernel
theorem dX2_sizeOf_85 : decode cX2_sizeOf 85 = .ok (.ireturn, 1) := by decide +kernel
theorem dX2_sizeOf_86 : decode cX2_sizeOf 86 = .ok (.aload_n 0, 1) := by decide +kernel
theorem dX2_sizeOf_87 : decode cX2_sizeOf 87 = .ok (.getfield 9, 3) := by decide +kernel
theorem dX2_sizeOf_90 : decode cX2_sizeOf 90 = .ok (.getfield 142, 3) := by decide +kernel
theorem dX2_sizeOf_93 : decode cX2_sizeOf 93 = .ok (.ireturn, 1) := by decide +kernel
theorem dX2_sizeOf_94 : decode cX2_sizeOf 94 = .ok (.aload_n 0, 1) := by decide +kernel
theorem dX2_sizeOf_95 : decode cX2_sizeOf 95 = .ok (.invokevirtual 145, 3) := by decide +kernel
theorem dX2_sizeOf_98 : decode cX2_sizeOf 98 = .ok (.ireturn, 1) := by decide +kernel
theorem dX2_sizeOf_99 : decode cX2_sizeOf 99 = .ok (.aload_n 0, 1) := by decide +kernel
theorem dX2_sizeOf_100 : decode cX2_sizeOf 100 = .ok (.getfield 66, 3) := by decide +kernel
theorem dX2_sizeOf_103 : decode cX2_sizeOf 103 = .ok (.ireturn, 1) := by decide +kernel
theorem dX2_sizeOf_104 : decode cX2_sizeOf 104 = .ok (.aload_n 0, 1) := by decide +kernel
theorem dX2_sizeOf_105 : decode cX2_sizeOf 105 = .ok (.getfield 69, 3) := by decide +kernel
theorem dX2_sizeOf_108 : decode cX2_sizeOf 108 = .ok (.ireturn, 1) := by decide +kernel
theorem dX2_sizeOf_109 : decode cX2_sizeOf 109 = .ok (.iconst (-1), 1) := by decide +kernel
theorem dX2_sizeOf_110 : decode cX2_sizeOf 110 = .ok (.ireturn, 1) := by decide +kernel
theorem dX3_addGrant_0 : decode cX3_addGrant 0 = .ok (.aload_n 0, 1) := by decide +kernel
theorem dX3_addGrant_1 : decode cX3_addGrant 1 = .ok (.getfield 52, 3) := by decide +kernel
theorem dX3_addGrant_4 : decode cX3_addGrant 4 = .ok (.bipush 8, 2) := by decide +kernel
theorem dX3_addGrant_6 : decode cX3_addGrant 6 = .ok (.if_icmp .ge 36, 3) := by decide +kernel
theorem dX3_addGrant_9 : decode cX3_addGrant 9 = .ok (.aload_n 0, 1) := by decide +kernel
theorem dX3_addGrant_10 : decode cX3_addGrant 10 = .ok (.getfield 15, 3) := by decide +kernel
theorem dX3_addGrant_13 : decode cX3_addGrant 13 = .ok (.aload_n 0, 1) := by decide +kernel
theorem dX3_addGrant_14 : decode cX3_addGrant 14 = .ok (.getfield 52, 3) := by decide +kernel
theorem dX3_addGrant_17 : decode cX3_addGrant 17 = .ok (.aaload, 1) := by decide +kernel
theorem dX3_addGrant_18 : decode cX3_addGrant 18 = .ok (.aload_n 1, 1) := by decide +kernel
theorem dX3_addGrant_19 : decode cX3_addGrant 19 = .ok (.invokevirtual 65, 3) := by decide +kernel
theorem dX3_addGrant_22 : decode cX3_addGrant 22 = .ok (.aload_n 0, 1) := by decide +kernel
theorem dX3_addGrant_23 : decode cX3_addGrant 23 = .ok (.getfield 22, 3) := by decide +kernel
theorem dX3_addGrant_26 : decode cX3_addGrant 26 = .ok (.aload_n 0, 1) := by decide +kernel
theorem dX3_addGrant_27 : decode cX3_addGrant 27 = .ok (.getfield 52, 3) := by decide +kernel
theorem dX3_addGrant_30 : decode cX3_addGrant 30 = .ok (.iconst 0, 1) := by decide +kernel
theorem dX3_addGrant_31 : decode cX3_addGrant 31 = .ok (.iastore, 1) := by decide +kernel
theorem dX3_addGrant_32 : decode cX3_addGrant 32 = .ok (.aload_n 0, 1) := by decide +kernel
theorem dX3_addGrant_33 : decode cX3_addGrant 33 = .ok (.dup, 1) := by decide +kernel
theorem dX3_addGrant_34 : decode cX3_addGrant 34 = .ok (.getfield 52, 3) := by decide +kernel
theorem dX3_addGrant_37 : decode cX3_addGrant 37 = .ok (.iconst 1, 1) := by decide +kernel
theorem dX3_addGrant_38 : decode cX3_addGrant 38 = .ok (.iadd, 1) := by decide +kernel
theorem dX3_addGrant_39 : decode cX3_addGrant 39 = .ok (.putfield 52, 3) := by decide +kernel
theorem dX3_addGrant_42 : decode cX3_addGrant 42 = .ok (.return_, 1) := by decide +kernel
theorem dX3_addLimit_0 : decode cX3_addLimit 0 = .ok (.aload_n 0, 1) := by decide +kernel
theorem dX3_addLimit_1 : decode cX3_addLimit 1 = .ok (.getfield 56, 3) := by decide +kernel
theorem dX3_addLimit_4 : decode cX3_addLimit 4 = .ok (.bipush 12, 2) := by decide +kernel
theorem dX3_addLimit_6 : decode cX3_addLimit 6 = .ok (.if_icmp .ge 23, 3) := by decide +kernel
theorem dX3_addLimit_9 : decode cX3_addLimit 9 = .ok (.aload_n 0, 1) := by decide +kernel
theorem dX3_addLimit_10 : decode cX3_addLimit 10 = .ok (.getfield 26, 3) := by decide +kernel
theorem dX3_addLimit_13 : decode cX3_addLimit 13 = .ok (.aload_n 0, 1) := by decide +kernel
theorem dX3_addLimit_14 : decode cX3_addLimit 14 = .ok (.getfield 56, 3) := by decide +kernel
theorem dX3_addLimit_17 : decode cX3_addLimit 17 = .ok (.iconst 0, 1) := by decide +kernel
theorem dX3_addLimit_18 : decode cX3_addLimit 18 = .ok (.iastore, 1) := by decide +kernel
theorem dX3_addLimit_19 : decode cX3_addLimit 19 = .ok (.aload_n 0, 1) := by decide +kernel
theorem dX3_addLimit_20 : decode cX3_addLimit 20 = .ok (.dup, 1) := by decide +kernel
theorem dX3_addLimit_21 : decode cX3_addLimit 21 = .ok (.getfield 56, 3) := by decide +kernel
theorem dX3_addLimit_24 : decode cX3_addLimit 24 = .ok (.iconst 1, 1) := by decide +kernel
theorem dX3_addLimit_25 : decode cX3_addLimit 25 = .ok (.iadd, 1) := by decide +kernel
theorem dX3_addLimit_26 : decode cX3_addLimit 26 = .ok (.putfield 56, 3) := by decide +kernel
theorem dX3_addLimit_29 : decode cX3_addLimit 29 = .ok (.return_, 1) := by decide +kernel
theorem dX3_addGrantRight_0 : decode cX3_addGrantRight 0 = .ok (.aload_n 0, 1) := by decide +kernel
theorem dX3_addGrantRight_1 : decode cX3_addGrantRight 1 = .ok (.getfield 52, 3) := by decide +kernel
theorem dX3_addGrantRight_4 : decode cX3_addGrantRight 4 = .ok (.iconst 1, 1) := by decide +kernel
theorem dX3_addGrantRight_5 : decode cX3_addGrantRight 5 = .ok (.isub, 1) := by decide +kernel
theorem dX3_addGrantRight_6 : decode cX3_addGrantRight 6 = .ok (.istore_n 2, 1) := by decide +kernel
theorem dX3_addGrantRight_7 : decode cX3_addGrantRight 7 = .ok (.iload_n 2, 1) := by decide +kernel
theorem dX3_addGrantRight_8 : decode cX3_addGrantRight 8 = .ok (.ifCond .lt 40, 3) := by decide +kernel
theorem dX3_addGrantRight_11 : decode cX3_addGrantRight 11 = .ok (.aload_n 0, 1) := by decide +kernel
theorem dX3_addGrantRight_12 : decode cX3_addGrantRight 12 = .ok (.getfield 22, 3) := by decide +kernel
theorem dX3_addGrantRight_15 : decode cX3_addGrantRight 15 = .ok (.iload_n 2, 1) := by decide +kernel
theorem dX3_addGrantRight_16 : decode cX3_addGrantRight 16 = .ok (.iaload, 1) := by decide +kernel
theorem dX3_addGrantRight_17 : decode cX3_addGrantRight 17 = .ok (.bipush 8, 2) := by decide +kernel
theorem dX3_addGrantRight_19 : decode cX3_addGrantRight 19 = .ok (.if_icmp .ge 29, 3) := by decide +kernel
theorem dX3_addGrantRight_22 : decode cX3_addGrantRight 22 = .ok (.aload_n 0, 1) := by decide +kernel
theorem dX3_addGrantRight_23 : decode cX3_addGrantRight 23 = .ok (.iload_n 2, 1) := by decide +kernel
theorem dX3_addGrantRight_24 : decode cX3_addGrantRight 24 = .ok (.bipush 8, 2) := by decide +kernel
theorem dX3_addGrantRight_26 : decode cX3_addGrantRight 26 = .ok (.imul, 1) := by decide +kernel
theorem dX3_addGrantRight_27 : decode cX3_addGrantRight 27 = .ok (.aload_n 0, 1) := by decide +kernel
theorem dX3_addGrantRight_28 : decode cX3_addGrantRight 28 = .ok (.getfield 22, 3) := by decide +kernel
theorem dX3_addGrantRight_31 : decode cX3_addGrantRight 31 = .ok (.iload_n 2, 1) := by decide +kernel
theorem dX3_addGrantRight_32 : decode cX3_addGrantRight 32 = .ok (.iaload, 1) := by decide +kernel
theorem dX3_addGrantRight_33 : decode cX3_addGrantRight 33 = .ok (.iadd, 1) := by decide +kernel
theorem dX3_addGrantRight_34 : decode cX3_addGrantRight 34 = .ok (.aload_n 1, 1) := by decide +kernel
theorem dX3_addGrantRight_35 : decode cX3_addGrantRight 35 = .ok (.invokevirtual 69, 3) := by decide +kernel
theorem dX3_addGrantRight_38 : decode cX3_addGrantRight 38 = .ok (.aload_n 0, 1) := by decide +kernel
theorem dX3_addGrantRight_39 : decode cX3_addGrantRight 39 = .ok (.getfield 22, 3) := by decide +kernel
theorem dX3_addGrantRight_42 : decode cX3_addGrantRight 42 = .ok (.iload_n 2, 1) := by decide +kernel
theorem dX3_addGrantRight_43 : decode cX3_addGrantRight 43 = .ok (.dup2, 1) := by decide +kernel
theorem dX3_addGrantRight_44 : decode cX3_addGrantRight 44 = .ok (.iaload, 1) := by decide +kernel
theorem dX3_addGrantRight_45 : decode cX3_addGrantRight 45 = .ok (.iconst 1, 1) := by decide +kernel
theorem dX3_addGrantRight_46 : decode cX3_addGrantRight 46 = .ok (.iadd, 1) := by decide +kernel
theorem dX3_addGrantRight_47 : decode cX3_addGrantRight 47 = .ok (.iastore, 1) := by decide +kernel
theorem dX3_addGrantRight_48 : decode cX3_addGrantRight 48 = .ok (.return_, 1) := by decide +kernel
theorem dX3_addLimitRight_0 : decode cX3_addLimitRight 0 = .ok (.aload_n 0, 1) := by decide +kernel
theorem dX3_addLimitRight_1 : decode cX3_addLimitRight 1 = .ok (.getfield 56, 3) := by decide +kernel
theorem dX3_addLimitRight_4 : decode cX3_addLimitRight 4 = .ok (.iconst 1, 1) := by decide +kernel
theorem dX3_addLimitRight_5 : decode cX3_addLimitRight 5 = .ok (.isub, 1) := by decide +kernel
theorem dX3_addLimitRight_6 : decode cX3_addLimitRight 6 = .ok (.istore_n 2, 1) := by decide +kernel
theorem dX3_addLimitRight_7 : decode cX3_addLimitRight 7 = .ok (.iload_n 2, 1) := by decide +kernel
theorem dX3_addLimitRight_8 : decode cX3_addLimitRight 8 = .ok (.ifCond .lt 43, 3) := by decide +kernel
theorem dX3_addLimitRight_11 : decode cX3_addLimitRight 11 = .ok (.aload_n 0, 1) := by decide +kernel
theorem dX3_addLimitRight_12 : decode cX3_addLimitRight 12 = .ok (.getfield 26, 3) := by decide +kernel
theorem dX3_addLimitRight_15 : decode cX3_addLimitRight 15 = .ok (.iload_n 2, 1) := by decide +kernel
theorem dX3_addLimitRight_16 : decode cX3_addLimitRight 16 = .ok (.iaload, 1) := by decide +kernel
theorem dX3_addLimitRight_17 : decode cX3_addLimitRight 17 = .ok (.bipush 8, 2) := by decide +kernel
theorem dX3_addLimitRight_19 : decode cX3_addLimitRight 19 = .ok (.if_icmp .ge 32, 3) := by decide +kernel
theorem dX3_addLimitRight_22 : decode cX3_addLimitRight 22 = .ok (.aload_n 0, 1) := by decide +kernel
theorem dX3_addLimitRight_23 : decode cX3_addLimitRight 23 = .ok (.bipush 64, 2) := by decide +kernel
theorem dX3_addLimitRight_25 : decode cX3_addLimitRight 25 = .ok (.iload_n 2, 1) := by decide +kernel
theorem dX3_addLimitRight_26 : decode cX3_addLimitRight 26 = .ok (.bipush 8, 2) := by decide +kernel
theorem dX3_addLimitRight_28 : decode cX3_addLimitRight 28 = .ok (.imul, 1) := by decide +kernel
theorem dX3_addLimitRight_29 : decode cX3_addLimitRight 29 = .ok (.iadd, 1) := by decide +kernel
theorem dX3_addLimitRight_30 : decode cX3_addLimitRight 30 = .ok (.aload_n 0, 1) := by decide +kernel
theorem dX3_addLimitRight_31 : decode cX3_addLimitRight 31 = .ok (.getfield 26, 3) := by decide +kernel
theorem dX3_addLimitRight_34 : decode cX3_addLimitRight 34 = .ok (.iload_n 2, 1) := by decide +kernel
theorem dX3_addLimitRight_35 : decode cX3_addLimitRight 35 = .ok (.iaload, 1) := by decide +kernel
theorem dX3_addLimitRight_36 : decode cX3_addLimitRight 36 = .ok (.iadd, 1) := by decide +kernel
theorem dX3_addLimitRight_37 : decode cX3_addLimitRight 37 = .ok (.aload_n 1, 1) := by decide +kernel
theorem dX3_addLimitRight_38 : decode cX3_addLimitRight 38 = .ok (.invokevirtual 69, 3) := by decide +kernel
theorem dX3_addLimitRight_41 : decode cX3_addLimitRight 41 = .ok (.aload_n 0, 1) := by decide +kernel
theorem dX3_addLimitRight_42 : decode cX3_addLimitRight 42 = .ok (.getfield 26, 3) := by decide +kernel
theorem dX3_addLimitRight_45 : decode cX3_addLimitRight 45 = .ok (.iload_n 2, 1) := by decide +kernel
theorem dX3_addLimitRight_46 : decode cX3_addLimitRight 46 = .ok (.dup2, 1) := by decide +kernel
theorem dX3_addLimitRight_47 : decode cX3_addLimitRight 47 = .ok (.iaload, 1) := by decide +kernel
theorem dX3_addLimitRight_48 : decode cX3_addLimitRight 48 = .ok (.iconst 1, 1) := by decide +kernel
theorem dX3_addLimitRight_49 : decode cX3_addLimitRight 49 = .ok (.iadd, 1) := by decide +kernel
theorem dX3_addLimitRight_50 : decode cX3_addLimitRight 50 = .ok (.iastore, 1) := by decide +kernel
theorem dX3_addLimitRight_51 : decode cX3_addLimitRight 51 = .ok (.return_, 1) := by decide +kernel
theorem dX3_setRight_0 : decode cX3_setRight 0 = .ok (.iload_n 1, 1) := by decide +kernel
theorem dX3_setRight_1 : decode cX3_setRight 1 = .ok (.ifCond .lt 20, 3) := by decide +kernel
theorem dX3_setRight_4 : decode cX3_setRight 4 = .ok (.iload_n 1, 1) := by decide +kernel
theorem dX3_setRight_5 : decode cX3_setRight 5 = .ok (.sipush 160, 3) := by decide +kernel
theorem dX3_setRight_8 : decode cX3_setRight 8 = .ok (.if_icmp .ge 13, 3) := by decide +kernel
theorem dX3_setRight_11 : decode cX3_setRight 11 = .ok (.aload_n 0, 1) := by decide +kernel
theorem dX3_setRight_12 : decode cX3_setRight 12 = .ok (.getfield 19, 3) := by decide +kernel
theorem dX3_setRight_15 : decode cX3_setRight 15 = .ok (.iload_n 1, 1) := by decide +kernel
theorem dX3_setRight_16 : decode cX3_setRight 16 = .ok (.aaload, 1) := by decide +kernel
theorem dX3_setRight_17 : decode cX3_setRight 17 = .ok (.aload_n 2, 1) := by decide +kernel
theorem dX3_setRight_18 : decode cX3_setRight 18 = .ok (.invokevirtual 65, 3) := by decide +kernel
theorem dX3_setRight_21 : decode cX3_setRight 21 = .ok (.return_, 1) := by decide +kernel
theorem dX3_addAsking_0 : decode cX3_addAsking 0 = .ok (.aload_n 0, 1) := by decide +kernel
theorem dX3_addAsking_1 : decode cX3_addAsking 1 = .ok (.getfield 62, 3) := by decide +kernel
theorem dX3_addAsking_4 : decode cX3_addAsking 4 = .ok (.bipush 24, 2) := by decide +kernel
theorem dX3_addAsking_6 : decode cX3_addAsking 6 = .ok (.if_icmp .ge 23, 3) := by decide +kernel
theorem dX3_addAsking_9 : decode cX3_addAsking 9 = .ok (.aload_n 0, 1) := by decide +kernel
theorem dX3_addAsking_10 : decode cX3_addAsking 10 = .ok (.getfield 38, 3) := by decide +kernel
theorem dX3_addAsking_13 : decode cX3_addAsking 13 = .ok (.aload_n 0, 1) := by decide +kernel
theorem dX3_addAsking_14 : decode cX3_addAsking 14 = .ok (.getfield 62, 3) := by decide +kernel
theorem dX3_addAsking_17 : decode cX3_addAsking 17 = .ok (.iconst 0, 1) := by decide +kernel
theorem dX3_addAsking_18 : decode cX3_addAsking 18 = .ok (.bastore, 1) := by decide +kernel
theorem dX3_addAsking_19 : decode cX3_addAsking 19 = .ok (.aload_n 0, 1) := by decide +kernel
theorem dX3_addAsking_20 : decode cX3_addAsking 20 = .ok (.dup, 1) := by decide +kernel
theorem dX3_addAsking_21 : decode cX3_addAsking 21 = .ok (.getfield 62, 3) := by decide +kernel
theorem dX3_addAsking_24 : decode cX3_addAsking 24 = .ok (.iconst 1, 1) := by decide +kernel
theorem dX3_addAsking_25 : decode cX3_addAsking 25 = .ok (.iadd, 1) := by decide +kernel
theorem dX3_addAsking_26 : decode cX3_addAsking 26 = .ok (.putfield 62, 3) := by decide +kernel
theorem dX3_addAsking_29 : decode cX3_addAsking 29 = .ok (.return_, 1) := by decide +kernel
theorem dX3_setAsking_0 : decode cX3_setAsking 0 = .ok (.iload_n 1, 1) := by decide +kernel
theorem dX3_setAsking_1 : decode cX3_setAsking 1 = .ok (.ifCond .lt 21, 3) := by decide +kernel
theorem dX3_setAsking_4 : decode cX3_setAsking 4 = .ok (.iload_n 1, 1) := by decide +kernel
theorem dX3_setAsking_5 : decode cX3_setAsking 5 = .ok (.aload_n 0, 1) := by decide +kernel
theorem dX3_setAsking_6 : decode cX3_setAsking 6 = .ok (.getfield 62, 3) := by decide +kernel
theorem dX3_setAsking_9 : decode cX3_setAsking 9 = .ok (.if_icmp .ge 13, 3) := by decide +kernel
theorem dX3_setAsking_12 : decode cX3_setAsking 12 = .ok (.aload_n 0, 1) := by decide +kernel
theorem dX3_setAsking_13 : decode cX3_setAsking 13 = .ok (.getfield 35, 3) := by decide +kernel
theorem dX3_setAsking_16 : decode cX3_setAsking 16 = .ok (.iload_n 1, 1) := by decide +kernel
theorem dX3_setAsking_17 : decode cX3_setAsking 17 = .ok (.aaload, 1) := by decide +kernel
theorem dX3_setAsking_18 : decode cX3_setAsking 18 = .ok (.aload_n 2, 1) := by decide +kernel
theorem dX3_setAsking_19 : decode cX3_setAsking 19 = .ok (.invokevirtual 65, 3) := by decide +kernel
theorem dX3_setAsking_22 : decode cX3_setAsking 22 = .ok (.return_, 1) := by decide +kernel
theorem dX3_setIndexed_0 : decode cX3_setIndexed 0 = .ok (.iload_n 1, 1) := by decide +kernel
theorem dX3_setIndexed_1 : decode cX3_setIndexed 1 = .ok (.ifCond .lt 18, 3) := by decide +kernel
theorem dX3_setIndexed_4 : decode cX3_setIndexed 4 = .ok (.iload_n 1, 1) := by decide +kernel
theorem dX3_setIndexed_5 : decode cX3_setIndexed 5 = .ok (.aload_n 0, 1) := by decide +kernel
theorem dX3_setIndexed_6 : decode cX3_setIndexed 6 = .ok (.getfield 62, 3) := by decide +kernel
theorem dX3_setIndexed_9 : decode cX3_setIndexed 9 = .ok (.if_icmp .ge 10, 3) := by decide +kernel
theorem dX3_setIndexed_12 : decode cX3_setIndexed 12 = .ok (.aload_n 0, 1) := by decide +kernel
theorem dX3_setIndexed_13 : decode cX3_setIndexed 13 = .ok (.getfield 38, 3) := by decide +kernel
theorem dX3_setIndexed_16 : decode cX3_setIndexed 16 = .ok (.iload_n 1, 1) := by decide +kernel
theorem dX3_setIndexed_17 : decode cX3_setIndexed 17 = .ok (.iconst 1, 1) := by decide +kernel
theorem dX3_setIndexed_18 : decode cX3_setIndexed 18 = .ok (.bastore, 1) := by decide +kernel
theorem dX3_setIndexed_19 : decode cX3_setIndexed 19 = .ok (.return_, 1) := by decide +kernel
theorem dX3_isIndexed_0 : decode cX3_isIndexed 0 = .ok (.iload_n 1, 1) := by decide +kernel
theorem dX3_isIndexed_1 : decode cX3_isIndexed 1 = .ok (.ifCond .lt 24, 3) := by decide +kernel
theorem dX3_isIndexed_4 : decode cX3_isIndexed 4 = .ok (.iload_n 1, 1) := by decide +kernel
theorem dX3_isIndexed_5 : decode cX3_isIndexed 5 = .ok (.aload_n 0, 1) := by decide +kernel
theorem dX3_isIndexed_6 : decode cX3_isIndexed 6 = .ok (.getfield 62, 3) := by decide +kernel
theorem dX3_isIndexed_9 : decode cX3_isIndexed 9 = .ok (.if_icmp .ge 16, 3) := by decide +kernel
theorem dX3_isIndexed_12 : decode cX3_isIndexed 12 = .ok (.aload_n 0, 1) := by decide +kernel
theorem dX3_isIndexed_13 : decode cX3_isIndexed 13 = .ok (.getfield 38, 3) := by decide +kernel
theorem dX3_isIndexed_16 : decode cX3_isIndexed 16 = .ok (.iload_n 1, 1) := by decide +kernel
theorem dX3_isIndexed_17 : decode cX3_isIndexed 17 = .ok (.baload, 1) := by decide +kernel
theorem dX3_isIndexed_18 : decode cX3_isIndexed 18 = .ok (.ifCond .eq 7, 3) := by decide +kernel
theorem dX3_isIndexed_21 : decode cX3_isIndexed 21 = .ok (.iconst 1, 1) := by decide +kernel
theorem dX3_isIndexed_22 : decode cX3_isIndexed 22 = .ok (.goto 4, 3) := by decide +kernel
theorem dX3_isIndexed_25 : decode cX3_isIndexed 25 = .ok (.iconst 0, 1) := by decide +kernel
theorem dX3_isIndexed_26 : decode cX3_isIndexed 26 = .ok (.ireturn, 1) := by decide +kernel
theorem dX3_placeModule_0 : decode cX3_placeModule 0 = .ok (.iload_n 1, 1) := by decide +kernel
theorem dX3_placeModule_1 : decode cX3_placeModule 1 = .ok (.ifCond .lt 9, 3) := by decide +kernel
theorem dX3_placeModule_4 : decode cX3_placeModule 4 = .ok (.iload_n 1, 1) := by decide +kernel
theorem dX3_placeModule_5 : decode cX3_placeModule 5 = .ok (.bipush 8, 2) := by decide +kernel
theorem dX3_placeModule_7 : decode cX3_placeModule 7 = .ok (.if_icmp .lt 4, 3) := by decide +kernel
theorem dX3_placeModule_10 : decode cX3_placeModule 10 = .ok (.return_, 1) := by decide +kernel
theorem dX3_placeModule_11 : decode cX3_placeModule 11 = .ok (.iconst 0, 1) := by decide +kernel
theorem dX3_placeModule_12 : decode cX3_placeModule 12 = .ok (.istore_n 3, 1) := by decide +kernel
theorem dX3_placeModule_13 : decode cX3_placeModule 13 = .ok (.iconst 0, 1) := by decide +kernel
theorem dX3_placeModule_14 : decode cX3_placeModule 14 = .ok (.istore 4, 2) := by decide +kernel
theorem dX3_placeModule_16 : decode cX3_placeModule 16 = .ok (.iload 4, 2) := by decide +kernel
theorem dX3_placeModule_18 : decode cX3_placeModule 18 = .ok (.aload_n 0, 1) := by decide +kernel
theorem dX3_placeModule_19 : decode cX3_placeModule 19 = .ok (.getfield 52, 3) := by decide +kernel
theorem dX3_placeModule_22 : decode cX3_placeModule 22 = .ok (.if_icmp .ge 34, 3) := by decide +kernel
theorem dX3_placeModule_25 : decode cX3_placeModule 25 = .ok (.iload_n 3, 1) := by decide +kernel
theorem dX3_placeModule_26 : decode cX3_placeModule 26 = .ok (.aload_n 0, 1) := by decide +kernel
theorem dX3_placeModule_27 : decode cX3_placeModule 27 = .ok (.getfield 15, 3) := by decide +kernel
theorem dX3_placeModule_30 : decode cX3_placeModule 30 = .ok (.iload 4, 2) := by decide +kernel
theorem dX3_placeModule_32 : decode cX3_placeModule 32 = .ok (.aaload, 1) := by decide +kernel
theorem dX3_placeModule_33 : decode cX3_placeModule 33 = .ok (.aload_n 2, 1) := by decide +kernel
theorem dX3_placeModule_34 : decode cX3_placeModule 34 = .ok (.invokevirtual 73, 3) := by decide +kernel
theorem dX3_placeModule_37 : decode cX3_placeModule 37 = .ok (.ifCond .eq 10, 3) := by decide +kernel
theorem dX3_placeModule_40 : decode cX3_placeModule 40 = .ok (.iconst 1, 1) := by decide +kernel
theorem dX3_placeModule_41 : decode cX3_placeModule 41 = .ok (.iload 4, 2) := by decide +kernel
theorem dX3_placeModule_43 : decode cX3_placeModule 43 = .ok (.ishl, 1) := by decide +kernel
theorem dX3_placeModule_44 : decode cX3_placeModule 44 = .ok (.goto 4, 3) := by decide +kernel
theorem dX3_placeModule_47 : decode cX3_placeModule 47 = .ok (.iconst 0, 1) := by decide +kernel
theorem dX3_placeModule_48 : decode cX3_placeModule 48 = .ok (.ior, 1) := by decide +kernel
theorem dX3_placeModule_49 : decode cX3_placeModule 49 = .ok (.istore_n 3, 1) := by decide +kernel
theorem dX3_placeModule_50 : decode cX3_placeModule 50 = .ok (.iinc 4 1, 3) := by decide +kernel
theorem dX3_placeModule_53 : decode cX3_placeModule 53 = .ok (.goto (-37), 3) := by decide +kernel
theorem dX3_placeModule_56 : decode cX3_placeModule 56 = .ok (.iconst 0, 1) := by decide +kernel
theorem dX3_placeModule_57 : decode cX3_placeModule 57 = .ok (.istore 4, 2) := by decide +kernel
theorem dX3_placeModule_59 : decode cX3_placeModule 59 = .ok (.iload 4, 2) := by decide +kernel
theorem dX3_placeModule_61 : decode cX3_placeModule 61 = .ok (.aload_n 0, 1) := by decide +kernel
theorem dX3_placeModule_62 : decode cX3_placeModule 62 = .ok (.getfield 59, 3) := by decide +kernel
theorem dX3_placeModule_65 : decode cX3_placeModule 65 = .ok (.if_icmp .ge 20, 3) := by decide +kernel
theorem dX3_placeModule_68 : decode cX3_placeModule 68 = .ok (.aload_n 0, 1) := by decide +kernel
theorem dX3_placeModule_69 : decode cX3_placeModule 69 = .ok (.getfield 29, 3) := by decide +kernel
theorem dX3_placeModule_72 : decode cX3_placeModule 72 = .ok (.iload 4, 2) := by decide +kernel
theorem dX3_placeModule_74 : decode cX3_placeModule 74 = .ok (.iaload, 1) := by decide +kernel
theorem dX3_placeModule_75 : decode cX3_placeModule 75 = .ok (.iload_n 3, 1) := by decide +kernel
theorem dX3_placeModule_76 : decode cX3_placeModule 76 = .ok (.if_icmp .eq 9, 3) := by decide +kernel
theorem dX3_placeModule_79 : decode cX3_placeModule 79 = .ok (.iinc 4 1, 3) := by decide +kernel
theorem dX3_placeModule_82 : decode cX3_placeModule 82 = .ok (.goto (-23), 3) := by decide +kernel
theorem dX3_placeModule_85 : decode cX3_placeModule 85 = .ok (.iload 4, 2) := by decide +kernel
theorem dX3_placeModule_87 : decode cX3_placeModule 87 = .ok (.aload_n 0, 1) := by decide +kernel
theorem dX3_placeModule_88 : decode cX3_placeModule 88 = .ok (.getfield 59, 3) := by decide +kernel
theorem dX3_placeModule_91 : decode cX3_placeModule 91 = .ok (.if_icmp .ne 28, 3) := by decide +kernel
theorem dX3_placeModule_94 : decode cX3_placeModule 94 = .ok (.iload 4, 2) := by decide +kernel
theorem dX3_placeModule_96 : decode cX3_placeModule 96 = .ok (.bipush 8, 2) := by decide +kernel
theorem dX3_placeModule_98 : decode cX3_placeModule 98 = .ok (.if_icmp .ge 21, 3) := by decide +kernel
theorem dX3_placeModule_101 : decode cX3_placeModule 101 = .ok (.aload_n 0, 1) := by decide +kernel
theorem dX3_placeModule_102 : decode cX3_placeModule 102 = .ok (.getfield 29, 3) := by decide +kernel
theorem dX3_placeModule_105 : decode cX3_placeModule 105 = .ok (.iload 4, 2) := by decide +kernel
theorem dX3_placeModule_107 : decode cX3_placeModule 107 = .ok (.iload_n 3, 1) := by decide +kernel
theorem dX3_placeModule_108 : decode cX3_placeModule 108 = .ok (.iastore, 1) := by decide +kernel
theorem dX3_placeModule_109 : decode cX3_placeModule 109 = .ok (.aload_n 0, 1) := by decide +kernel
theorem dX3_placeModule_110 : decode cX3_placeModule 110 = .ok (.dup, 1) := by decide +kernel
theorem dX3_placeModule_111 : decode cX3_placeModule 111 = .ok (.getfield 59, 3) := by decide +kernel
theorem dX3_placeModule_114 : decode cX3_placeModule 114 = .ok (.iconst 1, 1) := by decide +kernel
theorem dX3_placeModule_115 : decode cX3_placeModule 115 = .ok (.iadd, 1) := by decide +kernel
theorem dX3_placeModule_116 : decode cX3_placeModule 116 = .ok (.putfield 59, 3) := by decide +kernel
theorem dX3_placeModule_119 : decode cX3_placeModule 119 = .ok (.aload_n 0, 1) := by decide +kernel
theorem dX3_placeModule_120 : decode cX3_placeModule 120 = .ok (.getfield 32, 3) := by decide +kernel
theorem dX3_placeModule_123 : decode cX3_placeModule 123 = .ok (.iload_n 1, 1) := by decide +kernel
theorem dX3_placeModule_124 : decode cX3_placeModule 124 = .ok (.iload 4, 2) := by decide +kernel
theorem dX3_placeModule_126 : decode cX3_placeModule 126 = .ok (.iastore, 1) := by decide +kernel
theorem dX3_placeModule_127 : decode cX3_placeModule 127 = .ok (.return_, 1) := by decide +kernel
theorem dX3_domainOf_0 : decode cX3_domainOf 0 = .ok (.iload_n 1, 1) := by decide +kernel
theorem dX3_domainOf_1 : decode cX3_domainOf 1 = .ok (.ifCond .lt 18, 3) := by decide +kernel
theorem dX3_domainOf_4 : decode cX3_domainOf 4 = .ok (.iload_n 1, 1) := by decide +kernel
theorem dX3_domainOf_5 : decode cX3_domainOf 5 = .ok (.bipush 8, 2) := by decide +kernel
theorem dX3_domainOf_7 : decode cX3_domainOf 7 = .ok (.if_icmp .ge 12, 3) := by decide +kernel
theorem dX3_domainOf_10 : decode cX3_domainOf 10 = .ok (.aload_n 0, 1) := by decide +kernel
theorem dX3_domainOf_11 : decode cX3_domainOf 11 = .ok (.getfield 32, 3) := by decide +kernel
theorem dX3_domainOf_14 : decode cX3_domainOf 14 = .ok (.iload_n 1, 1) := by decide +kernel
theorem dX3_domainOf_15 : decode cX3_domainOf 15 = .ok (.iaload, 1) := by decide +kernel
theorem dX3_domainOf_16 : decode cX3_domainOf 16 = .ok (.goto 4, 3) := by decide +kernel
theorem dX3_domainOf_19 : decode cX3_domainOf 19 = .ok (.iconst 0, 1) := by decide +kernel
theorem dX3_domainOf_20 : decode cX3_domainOf 20 = .ok (.ireturn, 1) := by decide +kernel
theorem dX3_holders_0 : decode cX3_holders 0 = .ok (.iconst 0, 1) := by decide +kernel
theorem dX3_holders_1 : decode cX3_holders 1 = .ok (.istore_n 2, 1) := by decide +kernel
theorem dX3_holders_2 : decode cX3_holders 2 = .ok (.iconst 0, 1) := by decide +kernel
theorem dX3_holders_3 : decode cX3_holders 3 = .ok (.istore_n 3, 1) := by decide +kernel
theorem dX3_holders_4 : decode cX3_holders 4 = .ok (.iload_n 3, 1) := by decide +kernel
theorem dX3_holders_5 : decode cX3_holders 5 = .ok (.aload_n 0, 1) := by decide +kernel
theorem dX3_holders_6 : decode cX3_holders 6 = .ok (.getfield 52, 3) := by decide +kernel
theorem dX3_holders_9 : decode cX3_holders 9 = .ok (.if_icmp .ge 37, 3) := by decide +kernel
theorem dX3_holders_12 : decode cX3_holders 12 = .ok (.iload_n 2, 1) := by decide +kernel
theorem dX3_holders_13 : decode cX3_holders 13 = .ok (.aload_n 0, 1) := by decide +kernel
theorem dX3_holders_14 : decode cX3_holders 14 = .ok (.iload_n 3, 1) := by decide +kernel
theorem dX3_holders_15 : decode cX3_holders 15 = .ok (.bipush 8, 2) := by decide +kernel
theorem dX3_holders_17 : decode cX3_holders 17 = .ok (.imul, 1) := by decide +kernel
theorem dX3_holders_18 : decode cX3_holders 18 = .ok (.aload_n 0, 1) := by decide +kernel
theorem dX3_holders_19 : decode cX3_holders 19 = .ok (.getfield 22, 3) := by decide +kernel
theorem dX3_holders_22 : decode cX3_holders 22 = .ok (.iload_n 3, 1) := by decide +kernel
theorem dX3_holders_23 : decode cX3_holders 23 = .ok (.iaload, 1) := by decide +kernel
theorem dX3_holders_24 : decode cX3_holders 24 = .ok (.aload_n 1, 1) := by decide +kernel
theorem dX3_holders_25 : decode cX3_holders 25 = .ok (.invokevirtual 77, 3) := by decide +kernel
theorem dX3_holders_28 : decode cX3_holders 28 = .ok (.ifCond .eq 9, 3) := by decide +kernel
theorem dX3_holders_31 : decode cX3_holders 31 = .ok (.iconst 1, 1) := by decide +kernel
theorem dX3_holders_32 : decode cX3_holders 32 = .ok (.iload_n 3, 1) := by decide +kernel
theorem dX3_holders_33 : decode cX3_holders 33 = .ok (.ishl, 1) := by decide +kernel
theorem dX3_holders_34 : decode cX3_holders 34 = .ok (.goto 4, 3) := by decide +kernel
theorem dX3_holders_37 : decode cX3_holders 37 = .ok (.iconst 0, 1) := by decide +kernel
theorem dX3_holders_38 : decode cX3_holders 38 = .ok (.ior, 1) := by decide +kernel
theorem dX3_holders_39 : decode cX3_holders 39 = .ok (.istore_n 2, 1) := by decide +kernel
theorem dX3_holders_40 : decode cX3_holders 40 = .ok (.iinc 3 1, 3) := by decide +kernel
theorem dX3_holders_43 : decode cX3_holders 43 = .ok (.goto (-39), 3) := by decide +kernel
theorem dX3_holders_46 : decode cX3_holders 46 = .ok (.iconst 0, 1) := by decide +kernel
theorem dX3_holders_47 : decode cX3_holders 47 = .ok (.istore_n 3, 1) := by decide +kernel
theorem dX3_holders_48 : decode cX3_holders 48 = .ok (.iconst 0, 1) := by decide +kernel
theorem dX3_holders_49 : decode cX3_holders 49 = .ok (.istore 4, 2) := by decide +kernel
theorem dX3_holders_51 : decode cX3_holders 51 = .ok (.iload 4, 2) := by decide +kernel
theorem dX3_holders_53 : decode cX3_holders 53 = .ok (.aload_n 0, 1) := by decide +kernel
theorem dX3_holders_54 : decode cX3_holders 54 = .ok (.getfield 59, 3) := by decide +kernel
theorem dX3_holders_57 : decode cX3_holders 57 = .ok (.if_icmp .ge 32, 3) := by decide +kernel
theorem dX3_holders_60 : decode cX3_holders 60 = .ok (.iload_n 3, 1) := by decide +kernel
theorem dX3_holders_61 : decode cX3_holders 61 = .ok (.aload_n 0, 1) := by decide +kernel
theorem dX3_holders_62 : decode cX3_holders 62 = .ok (.getfield 29, 3) := by decide +kernel
theorem dX3_holders_65 : decode cX3_holders 65 = .ok (.iload 4, 2) := by decide +kernel
theorem dX3_holders_67 : decode cX3_holders 67 = .ok (.iaload, 1) := by decide +kernel
theorem dX3_holders_68 : decode cX3_holders 68 = .ok (.iload_n 2, 1) := by decide +kernel
theorem dX3_holders_69 : decode cX3_holders 69 = .ok (.iand, 1) := by decide +kernel
theorem dX3_holders_70 : decode cX3_holders 70 = .ok (.ifCond .eq 10, 3) := by decide +kernel
theorem dX3_holders_73 : decode cX3_holders 73 = .ok (.iconst 1, 1) := by decide +kernel
theorem dX3_holders_74 : decode cX3_holders 74 = .ok (.iload 4, 2) := by decide +kernel
theorem dX3_holders_76 : decode cX3_holders 76 = .ok (.ishl, 1) := by decide +kernel
theorem dX3_holders_77 : decode cX3_holders 77 = .ok (.goto 4, 3) := by decide +kernel
theorem dX3_holders_80 : decode cX3_holders 80 = .ok (.iconst 0, 1) := by decide +kernel
theorem dX3_holders_81 : decode cX3_holders 81 = .ok (.ior, 1) := by decide +kernel
theorem dX3_holders_82 : decode cX3_holders 82 = .ok (.istore_n 3, 1) := by decide +kernel
theorem dX3_holders_83 : decode cX3_holders 83 = .ok (.iinc 4 1, 3) := by decide +kernel
theorem dX3_holders_86 : decode cX3_holders 86 = .ok (.goto (-35), 3) := by decide +kernel
theorem dX3_holders_89 : decode cX3_holders 89 = .ok (.iconst 0, 1) := by decide +kernel
theorem dX3_holders_90 : decode cX3_holders 90 = .ok (.istore 4, 2) := by decide +kernel
theorem dX3_holders_92 : decode cX3_holders 92 = .ok (.iload 4, 2) := by decide +kernel
theorem dX3_holders_94 : decode cX3_holders 94 = .ok (.aload_n 0, 1) := by decide +kernel
theorem dX3_holders_95 : decode cX3_holders 95 = .ok (.getfield 56, 3) := by decide +kernel
theorem dX3_holders_98 : decode cX3_holders 98 = .ok (.if_icmp .ge 46, 3) := by decide +kernel
theorem dX3_holders_101 : decode cX3_holders 101 = .ok (.iload_n 3, 1) := by decide +kernel
theorem dX3_holders_102 : decode cX3_holders 102 = .ok (.aload_n 0, 1) := by decide +kernel
theorem dX3_holders_103 : decode cX3_holders 103 = .ok (.bipush 64, 2) := by decide +kernel
theorem dX3_holders_105 : decode cX3_holders 105 = .ok (.iload 4, 2) := by decide +kernel
theorem dX3_holders_107 : decode cX3_holders 107 = .ok (.bipush 8, 2) := by decide +kernel
theorem dX3_holders_109 : decode cX3_holders 109 = .ok (.imul, 1) := by decide +kernel
theorem dX3_holders_110 : decode cX3_holders 110 = .ok (.iadd, 1) := by decide +kernel
theorem dX3_holders_111 : decode cX3_holders 111 = .ok (.aload_n 0, 1) := by decide +kernel
theorem dX3_holders_112 : decode cX3_holders 112 = .ok (.getfield 26, 3) := by decide +kernel
theorem dX3_holders_115 : decode cX3_holders 115 = .ok (.iload 4, 2) := by decide +kernel
theorem dX3_holders_117 : decode cX3_holders 117 = .ok (.iaload, 1) := by decide +kernel
theorem dX3_holders_118 : decode cX3_holders 118 = .ok (.aload_n 1, 1) := by decide +kernel
theorem dX3_holders_119 : decode cX3_holders 119 = .ok (.invokevirtual 77, 3) := by decide +kernel
theorem dX3_holders_122 : decode cX3_holders 122 = .ok (.ifCond .eq 13, 3) := by decide +kernel
theorem dX3_holders_125 : decode cX3_holders 125 = .ok (.iconst 1, 1) := by decide +kernel
theorem dX3_holders_126 : decode cX3_holders 126 = .ok (.bipush 8, 2) := by decide +kernel
theorem dX3_holders_128 : decode cX3_holders 128 = .ok (.iload 4, 2) := by decide +kernel
theorem dX3_holders_130 : decode cX3_holders 130 = .ok (.iadd, 1) := by decide +kernel
theorem dX3_holders_131 : decode cX3_holders 131 = .ok (.ishl, 1) := by decide +kernel
theorem dX3_holders_132 : decode cX3_holders 132 = .ok (.goto 4, 3) := by decide +kernel
theorem dX3_holders_135 : decode cX3_holders 135 = .ok (.iconst 0, 1) := by decide +kernel
theorem dX3_holders_136 : decode cX3_holders 136 = .ok (.ior, 1) := by decide +kernel
theorem dX3_holders_137 : decode cX3_holders 137 = .ok (.istore_n 3, 1) := by decide +kernel
theorem dX3_holders_138 : decode cX3_holders 138 = .ok (.iinc 4 1, 3) := by decide +kernel
theorem dX3_holders_141 : decode cX3_holders 141 = .ok (.goto (-49), 3) := by decide +kernel
theorem dX3_holders_144 : decode cX3_holders 144 = .ok (.iload_n 3, 1) := by decide +kernel
theorem dX3_holders_145 : decode cX3_holders 145 = .ok (.ireturn, 1) := by decide +kernel
theorem dX3_anyHas_0 : decode cX3_anyHas 0 = .ok (.iconst 0, 1) := by decide +kernel
theorem dX3_anyHas_1 : decode cX3_anyHas 1 = .ok (.istore 4, 2) := by decide +kernel
theorem dX3_anyHas_3 : decode cX3_anyHas 3 = .ok (.iload_n 1, 1) := by decide +kernel
theorem dX3_anyHas_4 : decode cX3_anyHas 4 = .ok (.istore 5, 2) := by decide +kernel
theorem dX3_anyHas_6 : decode cX3_anyHas 6 = .ok (.iload 4, 2) := by decide +kernel
theorem dX3_anyHas_8 : decode cX3_anyHas 8 = .ok (.ifCond .ne 64, 3) := by decide +kernel
theorem dX3_anyHas_11 : decode cX3_anyHas 11 = .ok (.iload 5, 2) := by decide +kernel
