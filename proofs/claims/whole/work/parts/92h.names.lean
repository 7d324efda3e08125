theorem dX12_spawns_71 : decode cX12_spawns 71 = .ok (.putfield 772, 3) := by decide +kernel
theorem dX12_spawns_74 : decode cX12_spawns 74 = .ok (.goto 40, 3) := by decide +kernel
theorem dX12_spawns_77 : decode cX12_spawns 77 = .ok (.aload_n 0, 1) := by decide +kernel
theorem dX12_spawns_78 : decode cX12_spawns 78 = .ok (.invokevirtual 823, 3) := by decide +kernel
theorem dX12_spawns_81 : decode cX12_spawns 81 = .ok (.istore_n 3, 1) := by decide +kernel
theorem dX12_spawns_82 : decode cX12_spawns 82 = .ok (.aload_n 0, 1) := by decide +kernel
theorem dX12_spawns_83 : decode cX12_spawns 83 = .ok (.iload_n 3, 1) := by decide +kernel
theorem dX12_spawns_84 : decode cX12_spawns 84 = .ok (.aload_n 0, 1) := by decide +kernel
theorem dX12_spawns_85 : decode cX12_spawns 85 = .ok (.getfield 168, 3) := by decide +kernel
theorem dX12_spawns_88 : decode cX12_spawns 88 = .ok (.iload_n 2, 1) := by decide +kernel
theorem dX12_spawns_89 : decode cX12_spawns 89 = .ok (.iaload, 1) := by decide +kernel
theorem dX12_spawns_90 : decode cX12_spawns 90 = .ok (.iconst 0, 1) := by decide +kernel
theorem dX12_spawns_91 : decode cX12_spawns 91 = .ok (.invokevirtual 826, 3) := by decide +kernel
theorem dX12_spawns_94 : decode cX12_spawns 94 = .ok (.ifCond .eq 9, 3) := by decide +kernel
theorem dX12_spawns_97 : decode cX12_spawns 97 = .ok (.aload_n 0, 1) := by decide +kernel
theorem dX12_spawns_98 : decode cX12_spawns 98 = .ok (.iload_n 3, 1) := by decide +kernel
theorem dX12_spawns_99 : decode cX12_spawns 99 = .ok (.iload_n 2, 1) := by decide +kernel
theorem dX12_spawns_100 : decode cX12_spawns 100 = .ok (.invokevirtual 902, 3) := by decide +kernel
theorem dX12_spawns_103 : decode cX12_spawns 103 = .ok (.aload_n 0, 1) := by decide +kernel
theorem dX12_spawns_104 : decode cX12_spawns 104 = .ok (.iconst 0, 1) := by decide +kernel
theorem dX12_spawns_105 : decode cX12_spawns 105 = .ok (.iload_n 3, 1) := by decide +kernel
theorem dX12_spawns_106 : decode cX12_spawns 106 = .ok (.invokevirtual 778, 3) := by decide +kernel
theorem dX12_spawns_109 : decode cX12_spawns 109 = .ok (.aload_n 0, 1) := by decide +kernel
theorem dX12_spawns_110 : decode cX12_spawns 110 = .ok (.iconst 0, 1) := by decide +kernel
theorem dX12_spawns_111 : decode cX12_spawns 111 = .ok (.putfield 772, 3) := by decide +kernel
theorem dX12_spawns_114 : decode cX12_spawns 114 = .ok (.return_, 1) := by decide +kernel
theorem dX12_result_0 : decode cX12_result 0 = .ok (.aload_n 0, 1) := by decide +kernel
theorem dX12_result_1 : decode cX12_result 1 = .ok (.iconst 0, 1) := by decide +kernel
theorem dX12_result_2 : decode cX12_result 2 = .ok (.putfield 268, 3) := by decide +kernel
theorem dX12_result_5 : decode cX12_result 5 = .ok (.aload_n 0, 1) := by decide +kernel
theorem dX12_result_6 : decode cX12_result 6 = .ok (.getfield 424, 3) := by decide +kernel
theorem dX12_result_9 : decode cX12_result 9 = .ok (.ifCond .ne 5, 3) := by decide +kernel
theorem dX12_result_12 : decode cX12_result 12 = .ok (.iconst (-1), 1) := by decide +kernel
theorem dX12_result_13 : decode cX12_result 13 = .ok (.ireturn, 1) := by decide +kernel
theorem dX12_result_14 : decode cX12_result 14 = .ok (.iload_n 1, 1) := by decide +kernel
theorem dX12_result_15 : decode cX12_result 15 = .ok (.tableswitch 87 0 7 #[45, 50, 55, 60, 65, 70, 75, 80], 45) := by decide +kernel
theorem dX12_result_60 : decode cX12_result 60 = .ok (.aload_n 0, 1) := by decide +kernel
theorem dX12_result_61 : decode cX12_result 61 = .ok (.getfield 845, 3) := by decide +kernel
theorem dX12_result_64 : decode cX12_result 64 = .ok (.ireturn, 1) := by decide +kernel
theorem dX12_result_65 : decode cX12_result 65 = .ok (.aload_n 0, 1) := by decide +kernel
theorem dX12_result_66 : decode cX12_result 66 = .ok (.getfield 781, 3) := by decide +kernel
theorem dX12_result_69 : decode cX12_result 69 = .ok (.ireturn, 1) := by decide +kernel
theorem dX12_result_70 : decode cX12_result 70 = .ok (.aload_n 0, 1) := by decide +kernel
theorem dX12_result_71 : decode cX12_result 71 = .ok (.getfield 820, 3) := by decide +kernel
theorem dX12_result_74 : decode cX12_result 74 = .ok (.ireturn, 1) := by decide +kernel
theorem dX12_result_75 : decode cX12_result 75 = .ok (.aload_n 0, 1) := by decide +kernel
theorem dX12_result_76 : decode cX12_result 76 = .ok (.getfield 765, 3) := by decide +kernel
theorem dX12_result_79 : decode cX12_result 79 = .ok (.ireturn, 1) := by decide +kernel
theorem dX12_result_80 : decode cX12_result 80 = .ok (.aload_n 0, 1) := by decide +kernel
theorem dX12_result_81 : decode cX12_result 81 = .ok (.getfield 802, 3) := by decide +kernel
theorem dX12_result_84 : decode cX12_result 84 = .ok (.ireturn, 1) := by decide +kernel
theorem dX12_result_85 : decode cX12_result 85 = .ok (.aload_n 0, 1) := by decide +kernel
theorem dX12_result_86 : decode cX12_result 86 = .ok (.getfield 809, 3) := by decide +kernel
theorem dX12_result_89 : decode cX12_result 89 = .ok (.ireturn, 1) := by decide +kernel
theorem dX12_result_90 : decode cX12_result 90 = .ok (.aload_n 0, 1) := by decide +kernel
theorem dX12_result_91 : decode cX12_result 91 = .ok (.getfield 756, 3) := by decide +kernel
theorem dX12_result_94 : decode cX12_result 94 = .ok (.ireturn, 1) := by decide +kernel
theorem dX12_result_95 : decode cX12_result 95 = .ok (.aload_n 0, 1) := by decide +kernel
theorem dX12_result_96 : decode cX12_result 96 = .ok (.getfield 747, 3) := by decide +kernel
theorem dX12_result_99 : decode cX12_result 99 = .ok (.iconst 1, 1) := by decide +kernel
theorem dX12_result_100 : decode cX12_result 100 = .ok (.isub, 1) := by decide +kernel
theorem dX12_result_101 : decode cX12_result 101 = .ok (.ireturn, 1) := by decide +kernel
theorem dX12_result_102 : decode cX12_result 102 = .ok (.iconst (-1), 1) := by decide +kernel
theorem dX12_result_103 : decode cX12_result 103 = .ok (.ireturn, 1) := by decide +kernel
theorem dX12_event_0 : decode cX12_event 0 = .ok (.aload_n 0, 1) := by decide +kernel
theorem dX12_event_1 : decode cX12_event 1 = .ok (.iconst 0, 1) := by decide +kernel
theorem dX12_event_2 : decode cX12_event 2 = .ok (.putfield 268, 3) := by decide +kernel
theorem dX12_event_5 : decode cX12_event 5 = .ok (.aload_n 0, 1) := by decide +kernel
theorem dX12_event_6 : decode cX12_event 6 = .ok (.getfield 424, 3) := by decide +kernel
theorem dX12_event_9 : decode cX12_event 9 = .ok (.ifCond .eq 38, 3) := by decide +kernel
theorem dX12_event_12 : decode cX12_event 12 = .ok (.iload_n 1, 1) := by decide +kernel
theorem dX12_event_13 : decode cX12_event 13 = .ok (.ifCond .lt 34, 3) := by decide +kernel
theorem dX12_event_16 : decode cX12_event 16 = .ok (.iload_n 1, 1) := by decide +kernel
theorem dX12_event_17 : decode cX12_event 17 = .ok (.aload_n 0, 1) := by decide +kernel
theorem dX12_event_18 : decode cX12_event 18 = .ok (.getfield 765, 3) := by decide +kernel
theorem dX12_event_21 : decode cX12_event 21 = .ok (.if_icmp .ge 26, 3) := by decide +kernel
theorem dX12_event_24 : decode cX12_event 24 = .ok (.iload_n 1, 1) := by decide +kernel
theorem dX12_event_25 : decode cX12_event 25 = .ok (.sipush 200, 3) := by decide +kernel
theorem dX12_event_28 : decode cX12_event 28 = .ok (.if_icmp .ge 19, 3) := by decide +kernel
theorem dX12_event_31 : decode cX12_event 31 = .ok (.iload_n 2, 1) := by decide +kernel
theorem dX12_event_32 : decode cX12_event 32 = .ok (.i2l, 1) := by decide +kernel
theorem dX12_event_33 : decode cX12_event 33 = .ok (.lconst 0, 1) := by decide +kernel
theorem dX12_event_34 : decode cX12_event 34 = .ok (.ldc2_w 919, 3) := by decide +kernel
theorem dX12_event_37 : decode cX12_event 37 = .ok (.invokestatic 274, 3) := by decide +kernel
theorem dX12_event_40 : decode cX12_event 40 = .ok (.ifCond .eq 7, 3) := by decide +kernel
theorem dX12_event_43 : decode cX12_event 43 = .ok (.iconst 1, 1) := by decide +kernel
theorem dX12_event_44 : decode cX12_event 44 = .ok (.goto 4, 3) := by decide +kernel
theorem dX12_event_47 : decode cX12_event 47 = .ok (.iconst 0, 1) := by decide +kernel
theorem dX12_event_48 : decode cX12_event 48 = .ok (.istore_n 3, 1) := by decide +kernel
theorem dX12_event_49 : decode cX12_event 49 = .ok (.iload_n 3, 1) := by decide +kernel
theorem dX12_event_50 : decode cX12_event 50 = .ok (.ifCond .eq 16, 3) := by decide +kernel
theorem dX12_event_53 : decode cX12_event 53 = .ok (.aload_n 0, 1) := by decide +kernel
theorem dX12_event_54 : decode cX12_event 54 = .ok (.getfield 165, 3) := by decide +kernel
theorem dX12_event_57 : decode cX12_event 57 = .ok (.iconst 5, 1) := by decide +kernel
theorem dX12_event_58 : decode cX12_event 58 = .ok (.iload_n 1, 1) := by decide +kernel
theorem dX12_event_59 : decode cX12_event 59 = .ok (.imul, 1) := by decide +kernel
theorem dX12_event_60 : decode cX12_event 60 = .ok (.iload_n 2, 1) := by decide +kernel
theorem dX12_event_61 : decode cX12_event 61 = .ok (.iadd, 1) := by decide +kernel
theorem dX12_event_62 : decode cX12_event 62 = .ok (.iaload, 1) := by decide +kernel
theorem dX12_event_63 : decode cX12_event 63 = .ok (.goto 4, 3) := by decide +kernel
theorem dX12_event_66 : decode cX12_event 66 = .ok (.iconst (-1), 1) := by decide +kernel
theorem dX12_event_67 : decode cX12_event 67 = .ok (.ireturn, 1) := by decide +kernel
theorem dX12_thread_0 : decode cX12_thread 0 = .ok (.aload_n 0, 1) := by decide +kernel
theorem dX12_thread_1 : decode cX12_thread 1 = .ok (.iconst 0, 1) := by decide +kernel
theorem dX12_thread_2 : decode cX12_thread 2 = .ok (.putfield 268, 3) := by decide +kernel
theorem dX12_thread_5 : decode cX12_thread 5 = .ok (.aload_n 0, 1) := by decide +kernel
theorem dX12_thread_6 : decode cX12_thread 6 = .ok (.getfield 424, 3) := by decide +kernel
theorem dX12_thread_9 : decode cX12_thread 9 = .ok (.ifCond .eq 19, 3) := by decide +kernel
theorem dX12_thread_12 : decode cX12_thread 12 = .ok (.iload_n 1, 1) := by decide +kernel
theorem dX12_thread_13 : decode cX12_thread 13 = .ok (.i2l, 1) := by decide +kernel
theorem dX12_thread_14 : decode cX12_thread 14 = .ok (.lconst 0, 1) := by decide +kernel
theorem dX12_thread_15 : decode cX12_thread 15 = .ok (.aload_n 0, 1) := by decide +kernel
theorem dX12_thread_16 : decode cX12_thread 16 = .ok (.getfield 820, 3) := by decide +kernel
theorem dX12_thread_19 : decode cX12_thread 19 = .ok (.iconst 1, 1) := by decide +kernel
theorem dX12_thread_20 : decode cX12_thread 20 = .ok (.isub, 1) := by decide +kernel
theorem dX12_thread_21 : decode cX12_thread 21 = .ok (.i2l, 1) := by decide +kernel
theorem dX12_thread_22 : decode cX12_thread 22 = .ok (.invokestatic 274, 3) := by decide +kernel
theorem dX12_thread_25 : decode cX12_thread 25 = .ok (.ifCond .ne 5, 3) := by decide +kernel
theorem dX12_thread_28 : decode cX12_thread 28 = .ok (.iconst (-1), 1) := by decide +kernel
theorem dX12_thread_29 : decode cX12_thread 29 = .ok (.ireturn, 1) := by decide +kernel
theorem dX12_thread_30 : decode cX12_thread 30 = .ok (.iload_n 2, 1) := by decide +kernel
theorem dX12_thread_31 : decode cX12_thread 31 = .ok (.tableswitch 143 0 4 #[33, 40, 80, 101, 108], 33) := by decide +kernel
theorem dX12_thread_64 : decode cX12_thread 64 = .ok (.aload_n 0, 1) := by decide +kernel
theorem dX12_thread_65 : decode cX12_thread 65 = .ok (.getfield 190, 3) := by decide +kernel
theorem dX12_thread_68 : decode cX12_thread 68 = .ok (.iload_n 1, 1) := by decide +kernel
theorem dX12_thread_69 : decode cX12_thread 69 = .ok (.iaload, 1) := by decide +kernel
theorem dX12_thread_70 : decode cX12_thread 70 = .ok (.ireturn, 1) := by decide +kernel
theorem dX12_thread_71 : decode cX12_thread 71 = .ok (.aload_n 0, 1) := by decide +kernel
theorem dX12_thread_72 : decode cX12_thread 72 = .ok (.getfield 190, 3) := by decide +kernel
theorem dX12_thread_75 : decode cX12_thread 75 = .ok (.iload_n 1, 1) := by decide +kernel
theorem dX12_thread_76 : decode cX12_thread 76 = .ok (.iaload, 1) := by decide +kernel
theorem dX12_thread_77 : decode cX12_thread 77 = .ok (.iconst 2, 1) := by decide +kernel
theorem dX12_thread_78 : decode cX12_thread 78 = .ok (.if_icmp .eq 22, 3) := by decide +kernel
theorem dX12_thread_81 : decode cX12_thread 81 = .ok (.aload_n 0, 1) := by decide +kernel
theorem dX12_thread_82 : decode cX12_thread 82 = .ok (.getfield 190, 3) := by decide +kernel
theorem dX12_thread_85 : decode cX12_thread 85 = .ok (.iload_n 1, 1) := by decide +kernel
theorem dX12_thread_86 : decode cX12_thread 86 = .ok (.iaload, 1) := by decide +kernel
theorem dX12_thread_87 : decode cX12_thread 87 = .ok (.iconst 1, 1) := by decide +kernel
theorem dX12_thread_88 : decode cX12_thread 88 = .ok (.if_icmp .ne 21, 3) := by decide +kernel
theorem dX12_thread_91 : decode cX12_thread 91 = .ok (.aload_n 0, 1) := by decide +kernel
theorem dX12_thread_92 : decode cX12_thread 92 = .ok (.getfield 199, 3) := by decide +kernel
theorem dX12_thread_95 : decode cX12_thread 95 = .ok (.iload_n 1, 1) := by decide +kernel
theorem dX12_thread_96 : decode cX12_thread 96 = .ok (.iaload, 1) := by decide +kernel
theorem dX12_thread_97 : decode cX12_thread 97 = .ok (.ifCond .ne 12, 3) := by decide +kernel
theorem dX12_thread_100 : decode cX12_thread 100 = .ok (.aload_n 0, 1) := by decide +kernel
theorem dX12_thread_101 : decode cX12_thread 101 = .ok (.getfield 202, 3) := by decide +kernel
theorem dX12_thread_104 : decode cX12_thread 104 = .ok (.iload_n 1, 1) := by decide +kernel
theorem dX12_thread_105 : decode cX12_thread 105 = .ok (.iaload, 1) := by decide +kernel
theorem dX12_thread_106 : decode cX12_thread 106 = .ok (.goto 4, 3) := by decide +kernel
theorem dX12_thread_109 : decode cX12_thread 109 = .ok (.iconst 0, 1) := by decide +kernel
theorem dX12_thread_110 : decode cX12_thread 110 = .ok (.ireturn, 1) := by decide +kernel
theorem dX12_thread_111 : decode cX12_thread 111 = .ok (.aload_n 0, 1) := by decide +kernel
theorem dX12_thread_112 : decode cX12_thread 112 = .ok (.getfield 190, 3) := by decide +kernel
theorem dX12_thread_115 : decode cX12_thread 115 = .ok (.iload_n 1, 1) := by decide +kernel
theorem dX12_thread_116 : decode cX12_thread 116 = .ok (.iaload, 1) := by decide +kernel
theorem dX12_thread_117 : decode cX12_thread 117 = .ok (.iconst 1, 1) := by decide +kernel
theorem dX12_thread_118 : decode cX12_thread 118 = .ok (.if_icmp .ne 12, 3) := by decide +kernel
theorem dX12_thread_121 : decode cX12_thread 121 = .ok (.aload_n 0, 1) := by decide +kernel
theorem dX12_thread_122 : decode cX12_thread 122 = .ok (.getfield 199, 3) := by decide +kernel
theorem dX12_thread_125 : decode cX12_thread 125 = .ok (.iload_n 1, 1) := by decide +kernel
theorem dX12_thread_126 : decode cX12_thread 126 = .ok (.iaload, 1) := by decide +kernel
theorem dX12_thread_127 : decode cX12_thread 127 = .ok (.goto 4, 3) := by decide +kernel
theorem dX12_thread_130 : decode cX12_thread 130 = .ok (.iconst (-1), 1) := by decide +kernel
theorem dX12_thread_131 : decode cX12_thread 131 = .ok (.ireturn, 1) := by decide +kernel
theorem dX12_thread_132 : decode cX12_thread 132 = .ok (.aload_n 0, 1) := by decide +kernel
theorem dX12_thread_133 : decode cX12_thread 133 = .ok (.getfield 196, 3) := by decide +kernel
theorem dX12_thread_136 : decode cX12_thread 136 = .ok (.iload_n 1, 1) := by decide +kernel
theorem dX12_thread_137 : decode cX12_thread 137 = .ok (.iaload, 1) := by decide +kernel
theorem dX12_thread_138 : decode cX12_thread 138 = .ok (.ireturn, 1) := by decide +kernel
theorem dX12_thread_139 : decode cX12_thread 139 = .ok (.aload_n 0, 1) := by decide +kernel
theorem dX12_thread_140 : decode cX12_thread 140 = .ok (.getfield 193, 3) := by decide +kernel
theorem dX12_thread_143 : decode cX12_thread 143 = .ok (.iload_n 1, 1) := by decide +kernel
theorem dX12_thread_144 : decode cX12_thread 144 = .ok (.iaload, 1) := by decide +kernel
theorem dX12_thread_145 : decode cX12_thread 145 = .ok (.iconst (-1), 1) := by decide +kernel
theorem dX12_thread_146 : decode cX12_thread 146 = .ok (.if_icmp .eq 17, 3) := by decide +kernel
theorem dX12_thread_149 : decode cX12_thread 149 = .ok (.aload_n 0, 1) := by decide +kernel
theorem dX12_thread_150 : decode cX12_thread 150 = .ok (.getfield 190, 3) := by decide +kernel
theorem dX12_thread_153 : decode cX12_thread 153 = .ok (.aload_n 0, 1) := by decide +kernel
theorem dX12_thread_154 : decode cX12_thread 154 = .ok (.getfield 193, 3) := by decide +kernel
theorem dX12_thread_157 : decode cX12_thread 157 = .ok (.iload_n 1, 1) := by decide +kernel
theorem dX12_thread_158 : decode cX12_thread 158 = .ok (.iaload, 1) := by decide +kernel
theorem dX12_thread_159 : decode cX12_thread 159 = .ok (.iaload, 1) := by decide +kernel
theorem dX12_thread_160 : decode cX12_thread 160 = .ok (.ifCond .eq 7, 3) := by decide +kernel
theorem dX12_thread_163 : decode cX12_thread 163 = .ok (.iconst (-1), 1) := by decide +kernel
theorem dX12_thread_164 : decode cX12_thread 164 = .ok (.goto 9, 3) := by decide +kernel
theorem dX12_thread_167 : decode cX12_thread 167 = .ok (.aload_n 0, 1) := by decide +kernel
theorem dX12_thread_168 : decode cX12_thread 168 = .ok (.getfield 193, 3) := by decide +kernel
theorem dX12_thread_171 : decode cX12_thread 171 = .ok (.iload_n 1, 1) := by decide +kernel
theorem dX12_thread_172 : decode cX12_thread 172 = .ok (.iaload, 1) := by decide +kernel
theorem dX12_thread_173 : decode cX12_thread 173 = .ok (.ireturn, 1) := by decide +kernel
theorem dX12_thread_174 : decode cX12_thread 174 = .ok (.iconst (-1), 1) := by decide +kernel
theorem dX12_thread_175 : decode cX12_thread 175 = .ok (.ireturn, 1) := by decide +kernel
theorem dX12_context_0 : decode cX12_context 0 = .ok (.aload_n 0, 1) := by decide +kernel
theorem dX12_context_1 : decode cX12_context 1 = .ok (.iconst 0, 1) := by decide +kernel
theorem dX12_context_2 : decode cX12_context 2 = .ok (.putfield 268, 3) := by decide +kernel
theorem dX12_context_5 : decode cX12_context 5 = .ok (.aload_n 0, 1) := by decide +kernel
theorem dX12_context_6 : decode cX12_context 6 = .ok (.getfield 424, 3) := by decide +kernel
theorem dX12_context_9 : decode cX12_context 9 = .ok (.ifCond .eq 19, 3) := by decide +kernel
theorem dX12_context_12 : decode cX12_context 12 = .ok (.iload_n 1, 1) := by decide +kernel
theorem dX12_context_13 : decode cX12_context 13 = .ok (.i2l, 1) := by decide +kernel
theorem dX12_context_14 : decode cX12_context 14 = .ok (.lconst 0, 1) := by decide +kernel
theorem dX12_context_15 : decode cX12_context 15 = .ok (.aload_n 0, 1) := by decide +kernel
theorem dX12_context_16 : decode cX12_context 16 = .ok (.getfield 747, 3) := by decide +kernel
theorem dX12_context_19 : decode cX12_context 19 = .ok (.iconst 2, 1) := by decide +kernel
theorem dX12_context_20 : decode cX12_context 20 = .ok (.isub, 1) := by decide +kernel
theorem dX12_context_21 : decode cX12_context 21 = .ok (.i2l, 1) := by decide +kernel
theorem dX12_context_22 : decode cX12_context 22 = .ok (.invokestatic 274, 3) := by decide +kernel
theorem dX12_context_25 : decode cX12_context 25 = .ok (.ifCond .ne 5, 3) := by decide +kernel
theorem dX12_context_28 : decode cX12_context 28 = .ok (.iconst (-1), 1) := by decide +kernel
theorem dX12_context_29 : decode cX12_context 29 = .ok (.ireturn, 1) := by decide +kernel
theorem dX12_context_30 : decode cX12_context 30 = .ok (.iload_n 1, 1) := by decide +kernel
theorem dX12_context_31 : decode cX12_context 31 = .ok (.iconst 1, 1) := by decide +kernel
theorem dX12_context_32 : decode cX12_context 32 = .ok (.iadd, 1) := by decide +kernel
theorem dX12_context_33 : decode cX12_context 33 = .ok (.istore_n 3, 1) := by decide +kernel
theorem dX12_context_34 : decode cX12_context 34 = .ok (.iload_n 2, 1) := by decide +kernel
theorem dX12_context_35 : decode cX12_context 35 = .ok (.iconst (-1), 1) := by decide +kernel
theorem dX12_context_36 : decode cX12_context 36 = .ok (.if_icmp .ne 12, 3) := by decide +kernel
theorem dX12_context_39 : decode cX12_context 39 = .ok (.aload_n 0, 1) := by decide +kernel
theorem dX12_context_40 : decode cX12_context 40 = .ok (.getfield 255, 3) := by decide +kernel
theorem dX12_context_43 : decode cX12_context 43 = .ok (.iload_n 3, 1) := by decide +kernel
theorem dX12_context_44 : decode cX12_context 44 = .ok (.iaload, 1) := by decide +kernel
theorem dX12_context_45 : decode cX12_context 45 = .ok (.goto 36, 3) := by decide +kernel
theorem dX12_context_48 : decode cX12_context 48 = .ok (.iload_n 2, 1) := by decide +kernel
theorem dX12_context_49 : decode cX12_context 49 = .ok (.i2l, 1) := by decide +kernel
theorem dX12_context_50 : decode cX12_context 50 = .ok (.lconst 0, 1) := by decide +kernel
theorem dX12_context_51 : decode cX12_context 51 = .ok (.aload_n 0, 1) := by decide +kernel
theorem dX12_context_52 : decode cX12_context 52 = .ok (.getfield 255, 3) := by decide +kernel
theorem dX12_context_55 : decode cX12_context 55 = .ok (.iload_n 3, 1) := by decide +kernel
theorem dX12_context_56 : decode cX12_context 56 = .ok (.iaload, 1) := by decide +kernel
theorem dX12_context_57 : decode cX12_context 57 = .ok (.iconst 1, 1) := by decide +kernel
theorem dX12_context_58 : decode cX12_context 58 = .ok (.isub, 1) := by decide +kernel
theorem dX12_context_59 : decode cX12_context 59 = .ok (.i2l, 1) := by decide +kernel
theorem dX12_context_60 : decode cX12_context 60 = .ok (.invokestatic 274, 3) := by decide +kernel
theorem dX12_context_63 : decode cX12_context 63 = .ok (.ifCond .eq 17, 3) := by decide +kernel
theorem dX12_context_66 : decode cX12_context 66 = .ok (.aload_n 0, 1) := by decide +kernel
theorem dX12_context_67 : decode cX12_context 67 = .ok (.getfield 259, 3) := by decide +kernel
theorem dX12_context_70 : decode cX12_context 70 = .ok (.bipush 16, 2) := by decide +kernel
theorem dX12_context_72 : decode cX12_context 72 = .ok (.iload_n 3, 1) := by decide +kernel
theorem dX12_context_73 : decode cX12_context 73 = .ok (.imul, 1) := by decide +kernel
theorem dX12_context_74 : decode cX12_context 74 = .ok (.iload_n 2, 1) := by decide +kernel
theorem dX12_context_75 : decode cX12_context 75 = .ok (.iadd, 1) := by decide +kernel
theorem dX12_context_76 : decode cX12_context 76 = .ok (.iaload, 1) := by decide +kernel
theorem dX12_context_77 : decode cX12_context 77 = .ok (.goto 4, 3) := by decide +kernel
theorem dX12_context_80 : decode cX12_context 80 = .ok (.iconst (-1), 1) := by decide +kernel
theorem dX12_context_81 : decode cX12_context 81 = .ok (.ireturn, 1) := by decide +kernel
