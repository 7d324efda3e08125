theorem dX12_covers_125 : decode cX12_covers 125 = .ok (.iload 4, 2) := by decide +kernel
theorem dX12_covers_127 : decode cX12_covers 127 = .ok (.iload_n 3, 1) := by decide +kernel
theorem dX12_covers_128 : decode cX12_covers 128 = .ok (.if_icmp .le 7, 3) := by decide +kernel
theorem dX12_covers_131 : decode cX12_covers 131 = .ok (.iconst 1, 1) := by decide +kernel
theorem dX12_covers_132 : decode cX12_covers 132 = .ok (.goto 4, 3) := by decide +kernel
theorem dX12_covers_135 : decode cX12_covers 135 = .ok (.iconst 0, 1) := by decide +kernel
theorem dX12_covers_136 : decode cX12_covers 136 = .ok (.ireturn, 1) := by decide +kernel
theorem dX12_pattern_0 : decode cX12_pattern 0 = .ok (.aload_n 0, 1) := by decide +kernel
theorem dX12_pattern_1 : decode cX12_pattern 1 = .ok (.invokevirtual 332, 3) := by decide +kernel
theorem dX12_pattern_4 : decode cX12_pattern 4 = .ok (.ifCond .ne 4, 3) := by decide +kernel
theorem dX12_pattern_7 : decode cX12_pattern 7 = .ok (.return_, 1) := by decide +kernel
theorem dX12_pattern_8 : decode cX12_pattern 8 = .ok (.aload_n 0, 1) := by decide +kernel
theorem dX12_pattern_9 : decode cX12_pattern 9 = .ok (.getfield 292, 3) := by decide +kernel
theorem dX12_pattern_12 : decode cX12_pattern 12 = .ok (.iconst 4, 1) := by decide +kernel
theorem dX12_pattern_13 : decode cX12_pattern 13 = .ok (.if_icmp .eq 10, 3) := by decide +kernel
theorem dX12_pattern_16 : decode cX12_pattern 16 = .ok (.aload_n 0, 1) := by decide +kernel
theorem dX12_pattern_17 : decode cX12_pattern 17 = .ok (.invokevirtual 391, 3) := by decide +kernel
theorem dX12_pattern_20 : decode cX12_pattern 20 = .ok (.goto 31, 3) := by decide +kernel
theorem dX12_pattern_23 : decode cX12_pattern 23 = .ok (.iload_n 2, 1) := by decide +kernel
theorem dX12_pattern_24 : decode cX12_pattern 24 = .ok (.ifCond .eq 18, 3) := by decide +kernel
theorem dX12_pattern_27 : decode cX12_pattern 27 = .ok (.aload_n 0, 1) := by decide +kernel
theorem dX12_pattern_28 : decode cX12_pattern 28 = .ok (.getfield 379, 3) := by decide +kernel
theorem dX12_pattern_31 : decode cX12_pattern 31 = .ok (.ifCond .eq 11, 3) := by decide +kernel
theorem dX12_pattern_34 : decode cX12_pattern 34 = .ok (.aload_n 0, 1) := by decide +kernel
theorem dX12_pattern_35 : decode cX12_pattern 35 = .ok (.iconst 5, 1) := by decide +kernel
theorem dX12_pattern_36 : decode cX12_pattern 36 = .ok (.invokevirtual 362, 3) := by decide +kernel
theorem dX12_pattern_39 : decode cX12_pattern 39 = .ok (.goto 12, 3) := by decide +kernel
theorem dX12_pattern_42 : decode cX12_pattern 42 = .ok (.aload_n 0, 1) := by decide +kernel
theorem dX12_pattern_43 : decode cX12_pattern 43 = .ok (.iload_n 1, 1) := by decide +kernel
theorem dX12_pattern_44 : decode cX12_pattern 44 = .ok (.invokevirtual 397, 3) := by decide +kernel
theorem dX12_pattern_47 : decode cX12_pattern 47 = .ok (.aload_n 0, 1) := by decide +kernel
theorem dX12_pattern_48 : decode cX12_pattern 48 = .ok (.invokevirtual 388, 3) := by decide +kernel
theorem dX12_pattern_51 : decode cX12_pattern 51 = .ok (.return_, 1) := by decide +kernel
theorem dX12_right_0 : decode cX12_right 0 = .ok (.aload_n 0, 1) := by decide +kernel
theorem dX12_right_1 : decode cX12_right 1 = .ok (.invokevirtual 400, 3) := by decide +kernel
theorem dX12_right_4 : decode cX12_right 4 = .ok (.ifCond .ne 4, 3) := by decide +kernel
theorem dX12_right_7 : decode cX12_right 7 = .ok (.return_, 1) := by decide +kernel
theorem dX12_right_8 : decode cX12_right 8 = .ok (.aload_n 0, 1) := by decide +kernel
theorem dX12_right_9 : decode cX12_right 9 = .ok (.getfield 33, 3) := by decide +kernel
theorem dX12_right_12 : decode cX12_right 12 = .ok (.iload_n 1, 1) := by decide +kernel
theorem dX12_right_13 : decode cX12_right 13 = .ok (.iaload, 1) := by decide +kernel
theorem dX12_right_14 : decode cX12_right 14 = .ok (.bipush 8, 2) := by decide +kernel
theorem dX12_right_16 : decode cX12_right 16 = .ok (.if_icmp .ne 9, 3) := by decide +kernel
theorem dX12_right_19 : decode cX12_right 19 = .ok (.aload_n 0, 1) := by decide +kernel
theorem dX12_right_20 : decode cX12_right 20 = .ok (.iconst 4, 1) := by decide +kernel
theorem dX12_right_21 : decode cX12_right 21 = .ok (.invokevirtual 362, 3) := by decide +kernel
theorem dX12_right_24 : decode cX12_right 24 = .ok (.return_, 1) := by decide +kernel
theorem dX12_right_25 : decode cX12_right 25 = .ok (.bipush 8, 2) := by decide +kernel
theorem dX12_right_27 : decode cX12_right 27 = .ok (.iload_n 1, 1) := by decide +kernel
theorem dX12_right_28 : decode cX12_right 28 = .ok (.imul, 1) := by decide +kernel
theorem dX12_right_29 : decode cX12_right 29 = .ok (.aload_n 0, 1) := by decide +kernel
theorem dX12_right_30 : decode cX12_right 30 = .ok (.getfield 33, 3) := by decide +kernel
theorem dX12_right_33 : decode cX12_right 33 = .ok (.iload_n 1, 1) := by decide +kernel
theorem dX12_right_34 : decode cX12_right 34 = .ok (.iaload, 1) := by decide +kernel
theorem dX12_right_35 : decode cX12_right 35 = .ok (.iadd, 1) := by decide +kernel
theorem dX12_right_36 : decode cX12_right 36 = .ok (.istore_n 2, 1) := by decide +kernel
theorem dX12_right_37 : decode cX12_right 37 = .ok (.aload_n 0, 1) := by decide +kernel
theorem dX12_right_38 : decode cX12_right 38 = .ok (.getfield 36, 3) := by decide +kernel
theorem dX12_right_41 : decode cX12_right 41 = .ok (.iload_n 2, 1) := by decide +kernel
theorem dX12_right_42 : decode cX12_right 42 = .ok (.aload_n 0, 1) := by decide +kernel
theorem dX12_right_43 : decode cX12_right 43 = .ok (.getfield 358, 3) := by decide +kernel
theorem dX12_right_46 : decode cX12_right 46 = .ok (.lastore, 1) := by decide +kernel
theorem dX12_right_47 : decode cX12_right 47 = .ok (.aload_n 0, 1) := by decide +kernel
theorem dX12_right_48 : decode cX12_right 48 = .ok (.invokevirtual 388, 3) := by decide +kernel
theorem dX12_right_51 : decode cX12_right 51 = .ok (.aload_n 0, 1) := by decide +kernel
theorem dX12_right_52 : decode cX12_right 52 = .ok (.bipush 16, 2) := by decide +kernel
theorem dX12_right_54 : decode cX12_right 54 = .ok (.iload_n 2, 1) := by decide +kernel
theorem dX12_right_55 : decode cX12_right 55 = .ok (.iadd, 1) := by decide +kernel
theorem dX12_right_56 : decode cX12_right 56 = .ok (.iconst 0, 1) := by decide +kernel
theorem dX12_right_57 : decode cX12_right 57 = .ok (.invokevirtual 403, 3) := by decide +kernel
theorem dX12_right_60 : decode cX12_right 60 = .ok (.aload_n 0, 1) := by decide +kernel
theorem dX12_right_61 : decode cX12_right 61 = .ok (.getfield 33, 3) := by decide +kernel
theorem dX12_right_64 : decode cX12_right 64 = .ok (.iload_n 1, 1) := by decide +kernel
theorem dX12_right_65 : decode cX12_right 65 = .ok (.dup2, 1) := by decide +kernel
theorem dX12_right_66 : decode cX12_right 66 = .ok (.iaload, 1) := by decide +kernel
theorem dX12_right_67 : decode cX12_right 67 = .ok (.iconst 1, 1) := by decide +kernel
theorem dX12_right_68 : decode cX12_right 68 = .ok (.iadd, 1) := by decide +kernel
theorem dX12_right_69 : decode cX12_right 69 = .ok (.iastore, 1) := by decide +kernel
theorem dX12_right_70 : decode cX12_right 70 = .ok (.return_, 1) := by decide +kernel
theorem dX12_hasRight_0 : decode cX12_hasRight 0 = .ok (.iconst 0, 1) := by decide +kernel
theorem dX12_hasRight_1 : decode cX12_hasRight 1 = .ok (.istore 5, 2) := by decide +kernel
theorem dX12_hasRight_3 : decode cX12_hasRight 3 = .ok (.iload 5, 2) := by decide +kernel
theorem dX12_hasRight_5 : decode cX12_hasRight 5 = .ok (.aload_n 0, 1) := by decide +kernel
theorem dX12_hasRight_6 : decode cX12_hasRight 6 = .ok (.getfield 33, 3) := by decide +kernel
theorem dX12_hasRight_9 : decode cX12_hasRight 9 = .ok (.iload_n 1, 1) := by decide +kernel
theorem dX12_hasRight_10 : decode cX12_hasRight 10 = .ok (.iaload, 1) := by decide +kernel
theorem dX12_hasRight_11 : decode cX12_hasRight 11 = .ok (.if_icmp .ge 47, 3) := by decide +kernel
theorem dX12_hasRight_14 : decode cX12_hasRight 14 = .ok (.aload_n 0, 1) := by decide +kernel
theorem dX12_hasRight_15 : decode cX12_hasRight 15 = .ok (.getfield 36, 3) := by decide +kernel
theorem dX12_hasRight_18 : decode cX12_hasRight 18 = .ok (.bipush 8, 2) := by decide +kernel
theorem dX12_hasRight_20 : decode cX12_hasRight 20 = .ok (.iload_n 1, 1) := by decide +kernel
theorem dX12_hasRight_21 : decode cX12_hasRight 21 = .ok (.imul, 1) := by decide +kernel
theorem dX12_hasRight_22 : decode cX12_hasRight 22 = .ok (.iload 5, 2) := by decide +kernel
theorem dX12_hasRight_24 : decode cX12_hasRight 24 = .ok (.iadd, 1) := by decide +kernel
theorem dX12_hasRight_25 : decode cX12_hasRight 25 = .ok (.laload, 1) := by decide +kernel
theorem dX12_hasRight_26 : decode cX12_hasRight 26 = .ok (.lload_n 2, 1) := by decide +kernel
theorem dX12_hasRight_27 : decode cX12_hasRight 27 = .ok (.lcmp, 1) := by decide +kernel
theorem dX12_hasRight_28 : decode cX12_hasRight 28 = .ok (.ifCond .ne 24, 3) := by decide +kernel
theorem dX12_hasRight_31 : decode cX12_hasRight 31 = .ok (.aload_n 0, 1) := by decide +kernel
theorem dX12_hasRight_32 : decode cX12_hasRight 32 = .ok (.bipush 16, 2) := by decide +kernel
theorem dX12_hasRight_34 : decode cX12_hasRight 34 = .ok (.bipush 8, 2) := by decide +kernel
theorem dX12_hasRight_36 : decode cX12_hasRight 36 = .ok (.iload_n 1, 1) := by decide +kernel
theorem dX12_hasRight_37 : decode cX12_hasRight 37 = .ok (.imul, 1) := by decide +kernel
theorem dX12_hasRight_38 : decode cX12_hasRight 38 = .ok (.iadd, 1) := by decide +kernel
theorem dX12_hasRight_39 : decode cX12_hasRight 39 = .ok (.iload 5, 2) := by decide +kernel
theorem dX12_hasRight_41 : decode cX12_hasRight 41 = .ok (.iadd, 1) := by decide +kernel
theorem dX12_hasRight_42 : decode cX12_hasRight 42 = .ok (.iload 4, 2) := by decide +kernel
theorem dX12_hasRight_44 : decode cX12_hasRight 44 = .ok (.invokevirtual 407, 3) := by decide +kernel
theorem dX12_hasRight_47 : decode cX12_hasRight 47 = .ok (.ifCond .eq 5, 3) := by decide +kernel
theorem dX12_hasRight_50 : decode cX12_hasRight 50 = .ok (.iconst 1, 1) := by decide +kernel
theorem dX12_hasRight_51 : decode cX12_hasRight 51 = .ok (.ireturn, 1) := by decide +kernel
theorem dX12_hasRight_52 : decode cX12_hasRight 52 = .ok (.iinc 5 1, 3) := by decide +kernel
theorem dX12_hasRight_55 : decode cX12_hasRight 55 = .ok (.goto (-52), 3) := by decide +kernel
theorem dX12_hasRight_58 : decode cX12_hasRight 58 = .ok (.iconst 0, 1) := by decide +kernel
theorem dX12_hasRight_59 : decode cX12_hasRight 59 = .ok (.ireturn, 1) := by decide +kernel
theorem dX12_hasDomain_0 : decode cX12_hasDomain 0 = .ok (.iconst 0, 1) := by decide +kernel
theorem dX12_hasDomain_1 : decode cX12_hasDomain 1 = .ok (.istore 5, 2) := by decide +kernel
theorem dX12_hasDomain_3 : decode cX12_hasDomain 3 = .ok (.iload 5, 2) := by decide +kernel
theorem dX12_hasDomain_5 : decode cX12_hasDomain 5 = .ok (.aload_n 0, 1) := by decide +kernel
theorem dX12_hasDomain_6 : decode cX12_hasDomain 6 = .ok (.getfield 411, 3) := by decide +kernel
theorem dX12_hasDomain_9 : decode cX12_hasDomain 9 = .ok (.if_icmp .ge 38, 3) := by decide +kernel
theorem dX12_hasDomain_12 : decode cX12_hasDomain 12 = .ok (.aload_n 0, 1) := by decide +kernel
theorem dX12_hasDomain_13 : decode cX12_hasDomain 13 = .ok (.getfield 60, 3) := by decide +kernel
theorem dX12_hasDomain_16 : decode cX12_hasDomain 16 = .ok (.iload_n 1, 1) := by decide +kernel
theorem dX12_hasDomain_17 : decode cX12_hasDomain 17 = .ok (.iaload, 1) := by decide +kernel
theorem dX12_hasDomain_18 : decode cX12_hasDomain 18 = .ok (.iload 5, 2) := by decide +kernel
theorem dX12_hasDomain_20 : decode cX12_hasDomain 20 = .ok (.ishr, 1) := by decide +kernel
theorem dX12_hasDomain_21 : decode cX12_hasDomain 21 = .ok (.iconst 1, 1) := by decide +kernel
theorem dX12_hasDomain_22 : decode cX12_hasDomain 22 = .ok (.iand, 1) := by decide +kernel
theorem dX12_hasDomain_23 : decode cX12_hasDomain 23 = .ok (.iconst 1, 1) := by decide +kernel
theorem dX12_hasDomain_24 : decode cX12_hasDomain 24 = .ok (.if_icmp .ne 17, 3) := by decide +kernel
theorem dX12_hasDomain_27 : decode cX12_hasDomain 27 = .ok (.aload_n 0, 1) := by decide +kernel
theorem dX12_hasDomain_28 : decode cX12_hasDomain 28 = .ok (.iload 5, 2) := by decide +kernel
theorem dX12_hasDomain_30 : decode cX12_hasDomain 30 = .ok (.lload_n 2, 1) := by decide +kernel
theorem dX12_hasDomain_31 : decode cX12_hasDomain 31 = .ok (.iload 4, 2) := by decide +kernel
theorem dX12_hasDomain_33 : decode cX12_hasDomain 33 = .ok (.invokevirtual 414, 3) := by decide +kernel
theorem dX12_hasDomain_36 : decode cX12_hasDomain 36 = .ok (.ifCond .eq 5, 3) := by decide +kernel
theorem dX12_hasDomain_39 : decode cX12_hasDomain 39 = .ok (.iconst 1, 1) := by decide +kernel
theorem dX12_hasDomain_40 : decode cX12_hasDomain 40 = .ok (.ireturn, 1) := by decide +kernel
theorem dX12_hasDomain_41 : decode cX12_hasDomain 41 = .ok (.iinc 5 1, 3) := by decide +kernel
theorem dX12_hasDomain_44 : decode cX12_hasDomain 44 = .ok (.goto (-41), 3) := by decide +kernel
theorem dX12_hasDomain_47 : decode cX12_hasDomain 47 = .ok (.iconst 0, 1) := by decide +kernel
theorem dX12_hasDomain_48 : decode cX12_hasDomain 48 = .ok (.ireturn, 1) := by decide +kernel
theorem dX12_hasLimit_0 : decode cX12_hasLimit 0 = .ok (.aload_n 0, 1) := by decide +kernel
theorem dX12_hasLimit_1 : decode cX12_hasLimit 1 = .ok (.bipush 8, 2) := by decide +kernel
theorem dX12_hasLimit_3 : decode cX12_hasLimit 3 = .ok (.iload_n 1, 1) := by decide +kernel
theorem dX12_hasLimit_4 : decode cX12_hasLimit 4 = .ok (.iadd, 1) := by decide +kernel
theorem dX12_hasLimit_5 : decode cX12_hasLimit 5 = .ok (.lload_n 2, 1) := by decide +kernel
theorem dX12_hasLimit_6 : decode cX12_hasLimit 6 = .ok (.iload 4, 2) := by decide +kernel
theorem dX12_hasLimit_8 : decode cX12_hasLimit 8 = .ok (.invokevirtual 414, 3) := by decide +kernel
theorem dX12_hasLimit_11 : decode cX12_hasLimit 11 = .ok (.ireturn, 1) := by decide +kernel
theorem dX12_node_0 : decode cX12_node 0 = .ok (.aload_n 0, 1) := by decide +kernel
theorem dX12_node_1 : decode cX12_node 1 = .ok (.getfield 418, 3) := by decide +kernel
theorem dX12_node_4 : decode cX12_node 4 = .ok (.istore 4, 2) := by decide +kernel
theorem dX12_node_6 : decode cX12_node 6 = .ok (.aload_n 0, 1) := by decide +kernel
theorem dX12_node_7 : decode cX12_node 7 = .ok (.dup, 1) := by decide +kernel
theorem dX12_node_8 : decode cX12_node 8 = .ok (.getfield 418, 3) := by decide +kernel
theorem dX12_node_11 : decode cX12_node 11 = .ok (.iconst 1, 1) := by decide +kernel
theorem dX12_node_12 : decode cX12_node 12 = .ok (.iadd, 1) := by decide +kernel
theorem dX12_node_13 : decode cX12_node 13 = .ok (.putfield 418, 3) := by decide +kernel
theorem dX12_node_16 : decode cX12_node 16 = .ok (.aload_n 0, 1) := by decide +kernel
theorem dX12_node_17 : decode cX12_node 17 = .ok (.getfield 127, 3) := by decide +kernel
theorem dX12_node_20 : decode cX12_node 20 = .ok (.iload 4, 2) := by decide +kernel
theorem dX12_node_22 : decode cX12_node 22 = .ok (.iload_n 1, 1) := by decide +kernel
theorem dX12_node_23 : decode cX12_node 23 = .ok (.iastore, 1) := by decide +kernel
theorem dX12_node_24 : decode cX12_node 24 = .ok (.aload_n 0, 1) := by decide +kernel
theorem dX12_node_25 : decode cX12_node 25 = .ok (.getfield 130, 3) := by decide +kernel
theorem dX12_node_28 : decode cX12_node 28 = .ok (.iload 4, 2) := by decide +kernel
theorem dX12_node_30 : decode cX12_node 30 = .ok (.aload_n 0, 1) := by decide +kernel
theorem dX12_node_31 : decode cX12_node 31 = .ok (.getfield 421, 3) := by decide +kernel
theorem dX12_node_34 : decode cX12_node 34 = .ok (.iastore, 1) := by decide +kernel
theorem dX12_node_35 : decode cX12_node 35 = .ok (.aload_n 0, 1) := by decide +kernel
theorem dX12_node_36 : decode cX12_node 36 = .ok (.getfield 133, 3) := by decide +kernel
theorem dX12_node_39 : decode cX12_node 39 = .ok (.iload 4, 2) := by decide +kernel
theorem dX12_node_41 : decode cX12_node 41 = .ok (.iload_n 2, 1) := by decide +kernel
theorem dX12_node_42 : decode cX12_node 42 = .ok (.iastore, 1) := by decide +kernel
theorem dX12_node_43 : decode cX12_node 43 = .ok (.aload_n 0, 1) := by decide +kernel
theorem dX12_node_44 : decode cX12_node 44 = .ok (.getfield 136, 3) := by decide +kernel
theorem dX12_node_47 : decode cX12_node 47 = .ok (.iload 4, 2) := by decide +kernel
theorem dX12_node_49 : decode cX12_node 49 = .ok (.iload_n 3, 1) := by decide +kernel
theorem dX12_node_50 : decode cX12_node 50 = .ok (.iastore, 1) := by decide +kernel
theorem dX12_node_51 : decode cX12_node 51 = .ok (.aload_n 0, 1) := by decide +kernel
theorem dX12_node_52 : decode cX12_node 52 = .ok (.getfield 139, 3) := by decide +kernel
theorem dX12_node_55 : decode cX12_node 55 = .ok (.iload 4, 2) := by decide +kernel
theorem dX12_node_57 : decode cX12_node 57 = .ok (.iconst (-1), 1) := by decide +kernel
theorem dX12_node_58 : decode cX12_node 58 = .ok (.iastore, 1) := by decide +kernel
theorem dX12_node_59 : decode cX12_node 59 = .ok (.aload_n 0, 1) := by decide +kernel
theorem dX12_node_60 : decode cX12_node 60 = .ok (.getfield 142, 3) := by decide +kernel
theorem dX12_node_63 : decode cX12_node 63 = .ok (.iload 4, 2) := by decide +kernel
theorem dX12_node_65 : decode cX12_node 65 = .ok (.iconst (-1), 1) := by decide +kernel
theorem dX12_node_66 : decode cX12_node 66 = .ok (.iastore, 1) := by decide +kernel
theorem dX12_node_67 : decode cX12_node 67 = .ok (.aload_n 0, 1) := by decide +kernel
theorem dX12_node_68 : decode cX12_node 68 = .ok (.getfield 145, 3) := by decide +kernel
theorem dX12_node_71 : decode cX12_node 71 = .ok (.iload 4, 2) := by decide +kernel
theorem dX12_node_73 : decode cX12_node 73 = .ok (.iconst (-1), 1) := by decide +kernel
theorem dX12_node_74 : decode cX12_node 74 = .ok (.iastore, 1) := by decide +kernel
theorem dX12_node_75 : decode cX12_node 75 = .ok (.iload 4, 2) := by decide +kernel
theorem dX12_node_77 : decode cX12_node 77 = .ok (.ireturn, 1) := by decide +kernel
theorem dX12_gets_0 : decode cX12_gets 0 = .ok (.aload_n 0, 1) := by decide +kernel
theorem dX12_gets_1 : decode cX12_gets 1 = .ok (.invokevirtual 332, 3) := by decide +kernel
theorem dX12_gets_4 : decode cX12_gets 4 = .ok (.ifCond .ne 4, 3) := by decide +kernel
theorem dX12_gets_7 : decode cX12_gets 7 = .ok (.return_, 1) := by decide +kernel
theorem dX12_gets_8 : decode cX12_gets 8 = .ok (.aload_n 0, 1) := by decide +kernel
theorem dX12_gets_9 : decode cX12_gets 9 = .ok (.getfield 145, 3) := by decide +kernel
theorem dX12_gets_12 : decode cX12_gets 12 = .ok (.iload_n 2, 1) := by decide +kernel
theorem dX12_gets_13 : decode cX12_gets 13 = .ok (.iload_n 1, 1) := by decide +kernel
theorem dX12_gets_14 : decode cX12_gets 14 = .ok (.iastore, 1) := by decide +kernel
theorem dX12_gets_15 : decode cX12_gets 15 = .ok (.aload_n 0, 1) := by decide +kernel
theorem dX12_gets_16 : decode cX12_gets 16 = .ok (.getfield 139, 3) := by decide +kernel
theorem dX12_gets_19 : decode cX12_gets 19 = .ok (.iload_n 1, 1) := by decide +kernel
theorem dX12_gets_20 : decode cX12_gets 20 = .ok (.iaload, 1) := by decide +kernel
theorem dX12_gets_21 : decode cX12_gets 21 = .ok (.istore_n 3, 1) := by decide +kernel
theorem dX12_gets_22 : decode cX12_gets 22 = .ok (.iload_n 3, 1) := by decide +kernel
theorem dX12_gets_23 : decode cX12_gets 23 = .ok (.iconst (-1), 1) := by decide +kernel
theorem dX12_gets_24 : decode cX12_gets 24 = .ok (.if_icmp .ne 11, 3) := by decide +kernel
theorem dX12_gets_27 : decode cX12_gets 27 = .ok (.aload_n 0, 1) := by decide +kernel
theorem dX12_gets_28 : decode cX12_gets 28 = .ok (.getfield 139, 3) := by decide +kernel
theorem dX12_gets_31 : decode cX12_gets 31 = .ok (.iload_n 1, 1) := by decide +kernel
theorem dX12_gets_32 : decode cX12_gets 32 = .ok (.iload_n 2, 1) := by decide +kernel
theorem dX12_gets_33 : decode cX12_gets 33 = .ok (.iastore, 1) := by decide +kernel
theorem dX12_gets_34 : decode cX12_gets 34 = .ok (.return_, 1) := by decide +kernel
theorem dX12_gets_35 : decode cX12_gets 35 = .ok (.aload_n 0, 1) := by decide +kernel
theorem dX12_gets_36 : decode cX12_gets 36 = .ok (.getfield 142, 3) := by decide +kernel
theorem dX12_gets_39 : decode cX12_gets 39 = .ok (.iload_n 3, 1) := by decide +kernel
theorem dX12_gets_40 : decode cX12_gets 40 = .ok (.iaload, 1) := by decide +kernel
theorem dX12_gets_41 : decode cX12_gets 41 = .ok (.iconst (-1), 1) := by decide +kernel
theorem dX12_gets_42 : decode cX12_gets 42 = .ok (.if_icmp .eq 13, 3) := by decide +kernel
theorem dX12_gets_45 : decode cX12_gets 45 = .ok (.aload_n 0, 1) := by decide +kernel
theorem dX12_gets_46 : decode cX12_gets 46 = .ok (.getfield 142, 3) := by decide +kernel
theorem dX12_gets_49 : decode cX12_gets 49 = .ok (.iload_n 3, 1) := by decide +kernel
theorem dX12_gets_50 : decode cX12_gets 50 = .ok (.iaload, 1) := by decide +kernel
theorem dX12_gets_51 : decode cX12_gets 51 = .ok (.istore_n 3, 1) := by decide +kernel
theorem dX12_gets_52 : decode cX12_gets 52 = .ok (.goto (-17), 3) := by decide +kernel
theorem dX12_gets_55 : decode cX12_gets 55 = .ok (.aload_n 0, 1) := by decide +kernel
theorem dX12_gets_56 : decode cX12_gets 56 = .ok (.getfield 142, 3) := by decide +kernel
theorem dX12_gets_59 : decode cX12_gets 59 = .ok (.iload_n 3, 1) := by decide +kernel
theorem dX12_gets_60 : decode cX12_gets 60 = .ok (.iload_n 2, 1) := by decide +kernel
theorem dX12_gets_61 : decode cX12_gets 61 = .ok (.iastore, 1) := by decide +kernel
theorem dX12_gets_62 : decode cX12_gets 62 = .ok (.return_, 1) := by decide +kernel
theorem dX12_program_0 : decode cX12_program 0 = .ok (.aload_n 0, 1) := by decide +kernel
theorem dX12_program_1 : decode cX12_program 1 = .ok (.aload_n 0, 1) := by decide +kernel
theorem dX12_program_2 : decode cX12_program 2 = .ok (.getfield 271, 3) := by decide +kernel
theorem dX12_program_5 : decode cX12_program 5 = .ok (.putfield 278, 3) := by decide +kernel
theorem dX12_program_8 : decode cX12_program 8 = .ok (.iconst 0, 1) := by decide +kernel
theorem dX12_program_9 : decode cX12_program 9 = .ok (.istore_n 1, 1) := by decide +kernel
theorem dX12_program_10 : decode cX12_program 10 = .ok (.iload_n 1, 1) := by decide +kernel
theorem dX12_program_11 : decode cX12_program 11 = .ok (.aload_n 0, 1) := by decide +kernel
theorem dX12_program_12 : decode cX12_program 12 = .ok (.getfield 278, 3) := by decide +kernel
theorem dX12_program_15 : decode cX12_program 15 = .ok (.if_icmp .ge 21, 3) := by decide +kernel
theorem dX12_program_18 : decode cX12_program 18 = .ok (.aload_n 0, 1) := by decide +kernel
theorem dX12_program_19 : decode cX12_program 19 = .ok (.getfield 13, 3) := by decide +kernel
theorem dX12_program_22 : decode cX12_program 22 = .ok (.iload_n 1, 1) := by decide +kernel
theorem dX12_program_23 : decode cX12_program 23 = .ok (.aload_n 0, 1) := by decide +kernel
theorem dX12_program_24 : decode cX12_program 24 = .ok (.getfield 9, 3) := by decide +kernel
theorem dX12_program_27 : decode cX12_program 27 = .ok (.iload_n 1, 1) := by decide +kernel
theorem dX12_program_28 : decode cX12_program 28 = .ok (.iaload, 1) := by decide +kernel
theorem dX12_program_29 : decode cX12_program 29 = .ok (.iastore, 1) := by decide +kernel
theorem dX12_program_30 : decode cX12_program 30 = .ok (.iinc 1 1, 3) := by decide +kernel
theorem dX12_program_33 : decode cX12_program 33 = .ok (.goto (-23), 3) := by decide +kernel
theorem dX12_program_36 : decode cX12_program 36 = .ok (.aload_n 0, 1) := by decide +kernel
theorem dX12_program_37 : decode cX12_program 37 = .ok (.iconst 0, 1) := by decide +kernel
theorem dX12_program_38 : decode cX12_program 38 = .ok (.putfield 271, 3) := by decide +kernel
theorem dX12_program_41 : decode cX12_program 41 = .ok (.aload_n 0, 1) := by decide +kernel
theorem dX12_program_42 : decode cX12_program 42 = .ok (.iconst 0, 1) := by decide +kernel
theorem dX12_program_43 : decode cX12_program 43 = .ok (.putfield 424, 3) := by decide +kernel
theorem dX12_program_46 : decode cX12_program 46 = .ok (.aload_n 0, 1) := by decide +kernel
theorem dX12_program_47 : decode cX12_program 47 = .ok (.iconst 0, 1) := by decide +kernel
theorem dX12_program_48 : decode cX12_program 48 = .ok (.putfield 428, 3) := by decide +kernel
theorem dX12_program_51 : decode cX12_program 51 = .ok (.aload_n 0, 1) := by decide +kernel
theorem dX12_program_52 : decode cX12_program 52 = .ok (.iconst 0, 1) := by decide +kernel
theorem dX12_program_53 : decode cX12_program 53 = .ok (.putfield 289, 3) := by decide +kernel
theorem dX12_program_56 : decode cX12_program 56 = .ok (.aload_n 0, 1) := by decide +kernel
theorem dX12_program_57 : decode cX12_program 57 = .ok (.iconst (-1), 1) := by decide +kernel
theorem dX12_program_58 : decode cX12_program 58 = .ok (.putfield 16, 3) := by decide +kernel
theorem dX12_program_61 : decode cX12_program 61 = .ok (.aload_n 0, 1) := by decide +kernel
theorem dX12_program_62 : decode cX12_program 62 = .ok (.iconst 0, 1) := by decide +kernel
theorem dX12_program_63 : decode cX12_program 63 = .ok (.putfield 411, 3) := by decide +kernel
theorem dX12_program_66 : decode cX12_program 66 = .ok (.aload_n 0, 1) := by decide +kernel
theorem dX12_program_67 : decode cX12_program 67 = .ok (.iconst 0, 1) := by decide +kernel
theorem dX12_program_68 : decode cX12_program 68 = .ok (.putfield 431, 3) := by decide +kernel
theorem dX12_program_71 : decode cX12_program 71 = .ok (.aload_n 0, 1) := by decide +kernel
theorem dX12_program_72 : decode cX12_program 72 = .ok (.iconst 0, 1) := by decide +kernel
theorem dX12_program_73 : decode cX12_program 73 = .ok (.putfield 434, 3) := by decide +kernel
theorem dX12_program_76 : decode cX12_program 76 = .ok (.aload_n 0, 1) := by decide +kernel
theorem dX12_program_77 : decode cX12_program 77 = .ok (.iconst 0, 1) := by decide +kernel
theorem dX12_program_78 : decode cX12_program 78 = .ok (.putfield 437, 3) := by decide +kernel
theorem dX12_program_81 : decode cX12_program 81 = .ok (.aload_n 0, 1) := by decide +kernel
theorem dX12_program_82 : decode cX12_program 82 = .ok (.iconst 0, 1) := by decide +kernel
theorem dX12_program_83 : decode cX12_program 83 = .ok (.putfield 440, 3) := by decide +kernel
theorem dX12_program_86 : decode cX12_program 86 = .ok (.aload_n 0, 1) := by decide +kernel
theorem dX12_program_87 : decode cX12_program 87 = .ok (.iconst 0, 1) := by decide +kernel
theorem dX12_program_88 : decode cX12_program 88 = .ok (.putfield 443, 3) := by decide +kernel
theorem dX12_program_91 : decode cX12_program 91 = .ok (.aload_n 0, 1) := by decide +kernel
theorem dX12_program_92 : decode cX12_program 92 = .ok (.iconst 0, 1) := by decide +kernel
theorem dX12_program_93 : decode cX12_program 93 = .ok (.putfield 446, 3) := by decide +kernel
theorem dX12_program_96 : decode cX12_program 96 = .ok (.aload_n 0, 1) := by decide +kernel
theorem dX12_program_97 : decode cX12_program 97 = .ok (.iconst 0, 1) := by decide +kernel
theorem dX12_program_98 : decode cX12_program 98 = .ok (.putfield 449, 3) := by decide +kernel
theorem dX12_program_101 : decode cX12_program 101 = .ok (.aload_n 0, 1) := by decide +kernel
theorem dX12_program_102 : decode cX12_program 102 = .ok (.iconst 0, 1) := by decide +kernel
theorem dX12_program_103 : decode cX12_program 103 = .ok (.putfield 452, 3) := by decide +kernel
theorem dX12_program_106 : decode cX12_program 106 = .ok (.aload_n 0, 1) := by decide +kernel
theorem dX12_program_107 : decode cX12_program 107 = .ok (.iconst 0, 1) := by decide +kernel
theorem dX12_program_108 : decode cX12_program 108 = .ok (.putfield 455, 3) := by decide +kernel
theorem dX12_program_111 : decode cX12_program 111 = .ok (.aload_n 0, 1) := by decide +kernel
theorem dX12_program_112 : decode cX12_program 112 = .ok (.iconst 0, 1) := by decide +kernel
theorem dX12_program_113 : decode cX12_program 113 = .ok (.putfield 458, 3) := by decide +kernel
theorem dX12_program_116 : decode cX12_program 116 = .ok (.aload_n 0, 1) := by decide +kernel
theorem dX12_program_117 : decode cX12_program 117 = .ok (.iconst 0, 1) := by decide +kernel
theorem dX12_program_118 : decode cX12_program 118 = .ok (.putfield 418, 3) := by decide +kernel
theorem dX12_program_121 : decode cX12_program 121 = .ok (.aload_n 0, 1) := by decide +kernel
theorem dX12_program_122 : decode cX12_program 122 = .ok (.iconst (-1), 1) := by decide +kernel
theorem dX12_program_123 : decode cX12_program 123 = .ok (.putfield 421, 3) := by decide +kernel
theorem dX12_program_126 : decode cX12_program 126 = .ok (.aload_n 0, 1) := by decide +kernel
theorem dX12_program_127 : decode cX12_program 127 = .ok (.iconst 4, 1) := by decide +kernel
theorem dX12_program_128 : decode cX12_program 128 = .ok (.putfield 382, 3) := by decide +kernel
theorem dX12_program_131 : decode cX12_program 131 = .ok (.aload_n 0, 1) := by decide +kernel
theorem dX12_program_132 : decode cX12_program 132 = .ok (.iconst 0, 1) := by decide +kernel
theorem dX12_program_133 : decode cX12_program 133 = .ok (.putfield 336, 3) := by decide +kernel
theorem dX12_program_136 : decode cX12_program 136 = .ok (.aload_n 0, 1) := by decide +kernel
theorem dX12_program_137 : decode cX12_program 137 = .ok (.invokevirtual 388, 3) := by decide +kernel
theorem dX12_program_140 : decode cX12_program 140 = .ok (.aload_n 0, 1) := by decide +kernel
theorem dX12_program_141 : decode cX12_program 141 = .ok (.invokevirtual 461, 3) := by decide +kernel
theorem dX12_program_144 : decode cX12_program 144 = .ok (.aload_n 0, 1) := by decide +kernel
theorem dX12_program_145 : decode cX12_program 145 = .ok (.aload_n 0, 1) := by decide +kernel
theorem dX12_program_146 : decode cX12_program 146 = .ok (.invokevirtual 332, 3) := by decide +kernel
theorem dX12_program_149 : decode cX12_program 149 = .ok (.putfield 428, 3) := by decide +kernel
theorem dX12_program_152 : decode cX12_program 152 = .ok (.aload_n 0, 1) := by decide +kernel
theorem dX12_program_153 : decode cX12_program 153 = .ok (.aload_n 0, 1) := by decide +kernel
theorem dX12_program_154 : decode cX12_program 154 = .ok (.getfield 428, 3) := by decide +kernel
theorem dX12_program_157 : decode cX12_program 157 = .ok (.ifCond .eq 7, 3) := by decide +kernel
theorem dX12_program_160 : decode cX12_program 160 = .ok (.iconst 0, 1) := by decide +kernel
theorem dX12_program_161 : decode cX12_program 161 = .ok (.goto 4, 3) := by decide +kernel
theorem dX12_program_164 : decode cX12_program 164 = .ok (.iconst 1, 1) := by decide +kernel
theorem dX12_program_165 : decode cX12_program 165 = .ok (.putfield 268, 3) := by decide +kernel
theorem dX12_program_168 : decode cX12_program 168 = .ok (.aload_n 0, 1) := by decide +kernel
theorem dX12_program_169 : decode cX12_program 169 = .ok (.getfield 428, 3) := by decide +kernel
theorem dX12_program_172 : decode cX12_program 172 = .ok (.ifCond .ne 5, 3) := by decide +kernel
theorem dX12_program_175 : decode cX12_program 175 = .ok (.iconst 0, 1) := by decide +kernel
theorem dX12_program_176 : decode cX12_program 176 = .ok (.ireturn, 1) := by decide +kernel
theorem dX12_program_177 : decode cX12_program 177 = .ok (.aload_n 0, 1) := by decide +kernel
theorem dX12_program_178 : decode cX12_program 178 = .ok (.invokevirtual 464, 3) := by decide +kernel
theorem dX12_program_181 : decode cX12_program 181 = .ok (.aload_n 0, 1) := by decide +kernel
theorem dX12_program_182 : decode cX12_program 182 = .ok (.invokevirtual 467, 3) := by decide +kernel
theorem dX12_program_185 : decode cX12_program 185 = .ok (.aload_n 0, 1) := by decide +kernel
theorem dX12_program_186 : decode cX12_program 186 = .ok (.invokevirtual 470, 3) := by decide +kernel
theorem dX12_program_189 : decode cX12_program 189 = .ok (.aload_n 0, 1) := by decide +kernel
theorem dX12_program_190 : decode cX12_program 190 = .ok (.getfield 437, 3) := by decide +kernel
theorem dX12_program_193 : decode cX12_program 193 = .ok (.ireturn, 1) := by decide +kernel
theorem dX12_readAll_0 : decode cX12_readAll 0 = .ok (.aload_n 0, 1) := by decide +kernel
theorem dX12_readAll_1 : decode cX12_readAll 1 = .ok (.iconst 0, 1) := by decide +kernel
theorem dX12_readAll_2 : decode cX12_readAll 2 = .ok (.invokevirtual 394, 3) := by decide +kernel
theorem dX12_readAll_5 : decode cX12_readAll 5 = .ok (.ifCond .eq 10, 3) := by decide +kernel
theorem dX12_readAll_8 : decode cX12_readAll 8 = .ok (.aload_n 0, 1) := by decide +kernel
theorem dX12_readAll_9 : decode cX12_readAll 9 = .ok (.invokevirtual 473, 3) := by decide +kernel
theorem dX12_readAll_12 : decode cX12_readAll 12 = .ok (.goto (-12), 3) := by decide +kernel
theorem dX12_readAll_15 : decode cX12_readAll 15 = .ok (.aload_n 0, 1) := by decide +kernel
theorem dX12_readAll_16 : decode cX12_readAll 16 = .ok (.invokevirtual 476, 3) := by decide +kernel
theorem dX12_readAll_19 : decode cX12_readAll 19 = .ok (.aload_n 0, 1) := by decide +kernel
theorem dX12_readAll_20 : decode cX12_readAll 20 = .ok (.invokevirtual 332, 3) := by decide +kernel
theorem dX12_readAll_23 : decode cX12_readAll 23 = .ok (.ifCond .eq 10, 3) := by decide +kernel
theorem dX12_readAll_26 : decode cX12_readAll 26 = .ok (.aload_n 0, 1) := by decide +kernel
theorem dX12_readAll_27 : decode cX12_readAll 27 = .ok (.getfield 292, 3) := by decide +kernel
theorem dX12_readAll_30 : decode cX12_readAll 30 = .ok (.ifCond .ne (-15), 3) := by decide +kernel
theorem dX12_readAll_33 : decode cX12_readAll 33 = .ok (.return_, 1) := by decide +kernel
theorem dX12_grant_0 : decode cX12_grant 0 = .ok (.aload_n 0, 1) := by decide +kernel
theorem dX12_grant_1 : decode cX12_grant 1 = .ok (.getfield 411, 3) := by decide +kernel
theorem dX12_grant_4 : decode cX12_grant 4 = .ok (.bipush 8, 2) := by decide +kernel
theorem dX12_grant_6 : decode cX12_grant 6 = .ok (.if_icmp .ne 9, 3) := by decide +kernel
theorem dX12_grant_9 : decode cX12_grant 9 = .ok (.aload_n 0, 1) := by decide +kernel
theorem dX12_grant_10 : decode cX12_grant 10 = .ok (.iconst 4, 1) := by decide +kernel
theorem dX12_grant_11 : decode cX12_grant 11 = .ok (.invokevirtual 362, 3) := by decide +kernel
theorem dX12_grant_14 : decode cX12_grant 14 = .ok (.return_, 1) := by decide +kernel
theorem dX12_grant_15 : decode cX12_grant 15 = .ok (.aload_n 0, 1) := by decide +kernel
theorem dX12_grant_16 : decode cX12_grant 16 = .ok (.invokevirtual 388, 3) := by decide +kernel
theorem dX12_grant_19 : decode cX12_grant 19 = .ok (.aload_n 0, 1) := by decide +kernel
theorem dX12_grant_20 : decode cX12_grant 20 = .ok (.getfield 33, 3) := by decide +kernel
theorem dX12_grant_23 : decode cX12_grant 23 = .ok (.aload_n 0, 1) := by decide +kernel
theorem dX12_grant_24 : decode cX12_grant 24 = .ok (.getfield 411, 3) := by decide +kernel
theorem dX12_grant_27 : decode cX12_grant 27 = .ok (.iconst 0, 1) := by decide +kernel
theorem dX12_grant_28 : decode cX12_grant 28 = .ok (.iastore, 1) := by decide +kernel
theorem dX12_grant_29 : decode cX12_grant 29 = .ok (.aload_n 0, 1) := by decide +kernel
theorem dX12_grant_30 : decode cX12_grant 30 = .ok (.bipush 8, 2) := by decide +kernel
theorem dX12_grant_32 : decode cX12_grant 32 = .ok (.aload_n 0, 1) := by decide +kernel
theorem dX12_grant_33 : decode cX12_grant 33 = .ok (.getfield 411, 3) := by decide +kernel
theorem dX12_grant_36 : decode cX12_grant 36 = .ok (.iadd, 1) := by decide +kernel
theorem dX12_grant_37 : decode cX12_grant 37 = .ok (.iconst 0, 1) := by decide +kernel
theorem dX12_grant_38 : decode cX12_grant 38 = .ok (.invokevirtual 403, 3) := by decide +kernel
theorem dX12_grant_41 : decode cX12_grant 41 = .ok (.aload_n 0, 1) := by decide +kernel
theorem dX12_grant_42 : decode cX12_grant 42 = .ok (.bipush 123, 2) := by decide +kernel
theorem dX12_grant_44 : decode cX12_grant 44 = .ok (.invokevirtual 479, 3) := by decide +kernel
theorem dX12_grant_47 : decode cX12_grant 47 = .ok (.aload_n 0, 1) := by decide +kernel
theorem dX12_grant_48 : decode cX12_grant 48 = .ok (.invokevirtual 332, 3) := by decide +kernel
theorem dX12_grant_51 : decode cX12_grant 51 = .ok (.ifCond .eq 28, 3) := by decide +kernel
theorem dX12_grant_54 : decode cX12_grant 54 = .ok (.aload_n 0, 1) := by decide +kernel
theorem dX12_grant_55 : decode cX12_grant 55 = .ok (.getfield 292, 3) := by decide +kernel
theorem dX12_grant_58 : decode cX12_grant 58 = .ok (.iconst 1, 1) := by decide +kernel
theorem dX12_grant_59 : decode cX12_grant 59 = .ok (.if_icmp .ne 20, 3) := by decide +kernel
theorem dX12_grant_62 : decode cX12_grant 62 = .ok (.aload_n 0, 1) := by decide +kernel
theorem dX12_grant_63 : decode cX12_grant 63 = .ok (.aload_n 0, 1) := by decide +kernel
theorem dX12_grant_64 : decode cX12_grant 64 = .ok (.getfield 411, 3) := by decide +kernel
theorem dX12_grant_67 : decode cX12_grant 67 = .ok (.invokevirtual 482, 3) := by decide +kernel
theorem dX12_grant_70 : decode cX12_grant 70 = .ok (.aload_n 0, 1) := by decide +kernel
theorem dX12_grant_71 : decode cX12_grant 71 = .ok (.bipush 59, 2) := by decide +kernel
theorem dX12_grant_73 : decode cX12_grant 73 = .ok (.invokevirtual 479, 3) := by decide +kernel
theorem dX12_grant_76 : decode cX12_grant 76 = .ok (.goto (-29), 3) := by decide +kernel
theorem dX12_grant_79 : decode cX12_grant 79 = .ok (.aload_n 0, 1) := by decide +kernel
theorem dX12_grant_80 : decode cX12_grant 80 = .ok (.bipush 125, 2) := by decide +kernel
theorem dX12_grant_82 : decode cX12_grant 82 = .ok (.invokevirtual 479, 3) := by decide +kernel
theorem dX12_grant_85 : decode cX12_grant 85 = .ok (.aload_n 0, 1) := by decide +kernel
theorem dX12_grant_86 : decode cX12_grant 86 = .ok (.dup, 1) := by decide +kernel
theorem dX12_grant_87 : decode cX12_grant 87 = .ok (.getfield 411, 3) := by decide +kernel
theorem dX12_grant_90 : decode cX12_grant 90 = .ok (.iconst 1, 1) := by decide +kernel
theorem dX12_grant_91 : decode cX12_grant 91 = .ok (.iadd, 1) := by decide +kernel
theorem dX12_grant_92 : decode cX12_grant 92 = .ok (.putfield 411, 3) := by decide +kernel
theorem dX12_grant_95 : decode cX12_grant 95 = .ok (.return_, 1) := by decide +kernel
theorem dX12_moduleOf_0 : decode cX12_moduleOf 0 = .ok (.iconst 0, 1) := by decide +kernel
theorem dX12_moduleOf_1 : decode cX12_moduleOf 1 = .ok (.istore_n 3, 1) := by decide +kernel
theorem dX12_moduleOf_2 : decode cX12_moduleOf 2 = .ok (.iload_n 3, 1) := by decide +kernel
theorem dX12_moduleOf_3 : decode cX12_moduleOf 3 = .ok (.aload_n 0, 1) := by decide +kernel
theorem dX12_moduleOf_4 : decode cX12_moduleOf 4 = .ok (.getfield 434, 3) := by decide +kernel
theorem dX12_moduleOf_7 : decode cX12_moduleOf 7 = .ok (.if_icmp .ge 22, 3) := by decide +kernel
theorem dX12_moduleOf_10 : decode cX12_moduleOf 10 = .ok (.aload_n 0, 1) := by decide +kernel
theorem dX12_moduleOf_11 : decode cX12_moduleOf 11 = .ok (.getfield 39, 3) := by decide +kernel
theorem dX12_moduleOf_14 : decode cX12_moduleOf 14 = .ok (.iload_n 3, 1) := by decide +kernel
theorem dX12_moduleOf_15 : decode cX12_moduleOf 15 = .ok (.laload, 1) := by decide +kernel
theorem dX12_moduleOf_16 : decode cX12_moduleOf 16 = .ok (.lload_n 1, 1) := by decide +kernel
theorem dX12_moduleOf_17 : decode cX12_moduleOf 17 = .ok (.lcmp, 1) := by decide +kernel
theorem dX12_moduleOf_18 : decode cX12_moduleOf 18 = .ok (.ifCond .ne 5, 3) := by decide +kernel
theorem dX12_moduleOf_21 : decode cX12_moduleOf 21 = .ok (.iload_n 3, 1) := by decide +kernel
theorem dX12_moduleOf_22 : decode cX12_moduleOf 22 = .ok (.ireturn, 1) := by decide +kernel
theorem dX12_moduleOf_23 : decode cX12_moduleOf 23 = .ok (.iinc 3 1, 3) := by decide +kernel
theorem dX12_moduleOf_26 : decode cX12_moduleOf 26 = .ok (.goto (-24), 3) := by decide +kernel
theorem dX12_moduleOf_29 : decode cX12_moduleOf 29 = .ok (.iconst (-1), 1) := by decide +kernel
theorem dX12_moduleOf_30 : decode cX12_moduleOf 30 = .ok (.ireturn, 1) := by decide +kernel
theorem dX12_readModule_0 : decode cX12_readModule 0 = .ok (.aload_n 0, 1) := by decide +kernel
theorem dX12_readModule_1 : decode cX12_readModule 1 = .ok (.iconst 1, 1) := by decide +kernel
theorem dX12_readModule_2 : decode cX12_readModule 2 = .ok (.invokevirtual 485, 3) := by decide +kernel
theorem dX12_readModule_5 : decode cX12_readModule 5 = .ok (.aload_n 0, 1) := by decide +kernel
theorem dX12_readModule_6 : decode cX12_readModule 6 = .ok (.invokevirtual 400, 3) := by decide +kernel
theorem dX12_readModule_9 : decode cX12_readModule 9 = .ok (.ifCond .ne 4, 3) := by decide +kernel
theorem dX12_readModule_12 : decode cX12_readModule 12 = .ok (.return_, 1) := by decide +kernel
theorem dX12_readModule_13 : decode cX12_readModule 13 = .ok (.aload_n 0, 1) := by decide +kernel
theorem dX12_readModule_14 : decode cX12_readModule 14 = .ok (.getfield 434, 3) := by decide +kernel
theorem dX12_readModule_17 : decode cX12_readModule 17 = .ok (.istore_n 1, 1) := by decide +kernel
theorem dX12_readModule_18 : decode cX12_readModule 18 = .ok (.iload_n 1, 1) := by decide +kernel
theorem dX12_readModule_19 : decode cX12_readModule 19 = .ok (.bipush 8, 2) := by decide +kernel
theorem dX12_readModule_21 : decode cX12_readModule 21 = .ok (.if_icmp .ne 9, 3) := by decide +kernel
theorem dX12_readModule_24 : decode cX12_readModule 24 = .ok (.aload_n 0, 1) := by decide +kernel
theorem dX12_readModule_25 : decode cX12_readModule 25 = .ok (.iconst 4, 1) := by decide +kernel
theorem dX12_readModule_26 : decode cX12_readModule 26 = .ok (.invokevirtual 362, 3) := by decide +kernel
theorem dX12_readModule_29 : decode cX12_readModule 29 = .ok (.return_, 1) := by decide +kernel
theorem dX12_readModule_30 : decode cX12_readModule 30 = .ok (.aload_n 0, 1) := by decide +kernel
theorem dX12_readModule_31 : decode cX12_readModule 31 = .ok (.aload_n 0, 1) := by decide +kernel
theorem dX12_readModule_32 : decode cX12_readModule 32 = .ok (.getfield 358, 3) := by decide +kernel
theorem dX12_readModule_35 : decode cX12_readModule 35 = .ok (.invokevirtual 488, 3) := by decide +kernel
theorem dX12_readModule_38 : decode cX12_readModule 38 = .ok (.iconst (-1), 1) := by decide +kernel
theorem dX12_readModule_39 : decode cX12_readModule 39 = .ok (.if_icmp .eq 9, 3) := by decide +kernel
theorem dX12_readModule_42 : decode cX12_readModule 42 = .ok (.aload_n 0, 1) := by decide +kernel
theorem dX12_readModule_43 : decode cX12_readModule 43 = .ok (.iconst 2, 1) := by decide +kernel
theorem dX12_readModule_44 : decode cX12_readModule 44 = .ok (.invokevirtual 362, 3) := by decide +kernel
theorem dX12_readModule_47 : decode cX12_readModule 47 = .ok (.return_, 1) := by decide +kernel
theorem dX12_readModule_48 : decode cX12_readModule 48 = .ok (.aload_n 0, 1) := by decide +kernel
theorem dX12_readModule_49 : decode cX12_readModule 49 = .ok (.getfield 39, 3) := by decide +kernel
theorem dX12_readModule_52 : decode cX12_readModule 52 = .ok (.iload_n 1, 1) := by decide +kernel
theorem dX12_readModule_53 : decode cX12_readModule 53 = .ok (.aload_n 0, 1) := by decide +kernel
theorem dX12_readModule_54 : decode cX12_readModule 54 = .ok (.getfield 358, 3) := by decide +kernel
theorem dX12_readModule_57 : decode cX12_readModule 57 = .ok (.lastore, 1) := by decide +kernel
theorem dX12_readModule_58 : decode cX12_readModule 58 = .ok (.aload_n 0, 1) := by decide +kernel
theorem dX12_readModule_59 : decode cX12_readModule 59 = .ok (.getfield 42, 3) := by decide +kernel
theorem dX12_readModule_62 : decode cX12_readModule 62 = .ok (.iload_n 1, 1) := by decide +kernel
theorem dX12_readModule_63 : decode cX12_readModule 63 = .ok (.iconst (-1), 1) := by decide +kernel
theorem dX12_readModule_64 : decode cX12_readModule 64 = .ok (.iastore, 1) := by decide +kernel
theorem dX12_readModule_65 : decode cX12_readModule 65 = .ok (.aload_n 0, 1) := by decide +kernel
theorem dX12_readModule_66 : decode cX12_readModule 66 = .ok (.getfield 45, 3) := by decide +kernel
theorem dX12_readModule_69 : decode cX12_readModule 69 = .ok (.iload_n 1, 1) := by decide +kernel
theorem dX12_readModule_70 : decode cX12_readModule 70 = .ok (.iconst 0, 1) := by decide +kernel
theorem dX12_readModule_71 : decode cX12_readModule 71 = .ok (.iastore, 1) := by decide +kernel
theorem dX12_readModule_72 : decode cX12_readModule 72 = .ok (.aload_n 0, 1) := by decide +kernel
theorem dX12_readModule_73 : decode cX12_readModule 73 = .ok (.getfield 51, 3) := by decide +kernel
theorem dX12_readModule_76 : decode cX12_readModule 76 = .ok (.iload_n 1, 1) := by decide +kernel
theorem dX12_readModule_77 : decode cX12_readModule 77 = .ok (.iconst 0, 1) := by decide +kernel
theorem dX12_readModule_78 : decode cX12_readModule 78 = .ok (.iastore, 1) := by decide +kernel
theorem dX12_readModule_79 : decode cX12_readModule 79 = .ok (.aload_n 0, 1) := by decide +kernel
theorem dX12_readModule_80 : decode cX12_readModule 80 = .ok (.invokevirtual 388, 3) := by decide +kernel
theorem dX12_readModule_83 : decode cX12_readModule 83 = .ok (.aload_n 0, 1) := by decide +kernel
theorem dX12_readModule_84 : decode cX12_readModule 84 = .ok (.iconst 0, 1) := by decide +kernel
theorem dX12_readModule_85 : decode cX12_readModule 85 = .ok (.iload_n 1, 1) := by decide +kernel
theorem dX12_readModule_86 : decode cX12_readModule 86 = .ok (.iadd, 1) := by decide +kernel
theorem dX12_readModule_87 : decode cX12_readModule 87 = .ok (.iconst 1, 1) := by decide +kernel
theorem dX12_readModule_88 : decode cX12_readModule 88 = .ok (.invokevirtual 403, 3) := by decide +kernel
theorem dX12_readModule_91 : decode cX12_readModule 91 = .ok (.aload_n 0, 1) := by decide +kernel
theorem dX12_readModule_92 : decode cX12_readModule 92 = .ok (.bipush 58, 2) := by decide +kernel
theorem dX12_readModule_94 : decode cX12_readModule 94 = .ok (.invokevirtual 385, 3) := by decide +kernel
theorem dX12_readModule_97 : decode cX12_readModule 97 = .ok (.ifCond .eq 48, 3) := by decide +kernel
theorem dX12_readModule_100 : decode cX12_readModule 100 = .ok (.aload_n 0, 1) := by decide +kernel
theorem dX12_readModule_101 : decode cX12_readModule 101 = .ok (.invokevirtual 388, 3) := by decide +kernel
theorem dX12_readModule_104 : decode cX12_readModule 104 = .ok (.aload_n 0, 1) := by decide +kernel
theorem dX12_readModule_105 : decode cX12_readModule 105 = .ok (.invokevirtual 400, 3) := by decide +kernel
theorem dX12_readModule_108 : decode cX12_readModule 108 = .ok (.ifCond .eq 37, 3) := by decide +kernel
theorem dX12_readModule_111 : decode cX12_readModule 111 = .ok (.aload_n 0, 1) := by decide +kernel
theorem dX12_readModule_112 : decode cX12_readModule 112 = .ok (.getfield 42, 3) := by decide +kernel
theorem dX12_readModule_115 : decode cX12_readModule 115 = .ok (.iload_n 1, 1) := by decide +kernel
theorem dX12_readModule_116 : decode cX12_readModule 116 = .ok (.aload_n 0, 1) := by decide +kernel
theorem dX12_readModule_117 : decode cX12_readModule 117 = .ok (.aload_n 0, 1) := by decide +kernel
theorem dX12_readModule_118 : decode cX12_readModule 118 = .ok (.getfield 358, 3) := by decide +kernel
theorem dX12_readModule_121 : decode cX12_readModule 121 = .ok (.invokevirtual 488, 3) := by decide +kernel
theorem dX12_readModule_124 : decode cX12_readModule 124 = .ok (.iastore, 1) := by decide +kernel
theorem dX12_readModule_125 : decode cX12_readModule 125 = .ok (.aload_n 0, 1) := by decide +kernel
theorem dX12_readModule_126 : decode cX12_readModule 126 = .ok (.getfield 42, 3) := by decide +kernel
theorem dX12_readModule_129 : decode cX12_readModule 129 = .ok (.iload_n 1, 1) := by decide +kernel
theorem dX12_readModule_130 : decode cX12_readModule 130 = .ok (.iaload, 1) := by decide +kernel
theorem dX12_readModule_131 : decode cX12_readModule 131 = .ok (.iconst (-1), 1) := by decide +kernel
theorem dX12_readModule_132 : decode cX12_readModule 132 = .ok (.if_icmp .ne 9, 3) := by decide +kernel
theorem dX12_readModule_135 : decode cX12_readModule 135 = .ok (.aload_n 0, 1) := by decide +kernel
theorem dX12_readModule_136 : decode cX12_readModule 136 = .ok (.iconst 3, 1) := by decide +kernel
theorem dX12_readModule_137 : decode cX12_readModule 137 = .ok (.invokevirtual 362, 3) := by decide +kernel
theorem dX12_readModule_140 : decode cX12_readModule 140 = .ok (.return_, 1) := by decide +kernel
theorem dX12_readModule_141 : decode cX12_readModule 141 = .ok (.aload_n 0, 1) := by decide +kernel
theorem dX12_readModule_142 : decode cX12_readModule 142 = .ok (.invokevirtual 388, 3) := by decide +kernel
theorem dX12_readModule_145 : decode cX12_readModule 145 = .ok (.aload_n 0, 1) := by decide +kernel
theorem dX12_readModule_146 : decode cX12_readModule 146 = .ok (.dup, 1) := by decide +kernel
theorem dX12_readModule_147 : decode cX12_readModule 147 = .ok (.getfield 434, 3) := by decide +kernel
theorem dX12_readModule_150 : decode cX12_readModule 150 = .ok (.iconst 1, 1) := by decide +kernel
theorem dX12_readModule_151 : decode cX12_readModule 151 = .ok (.iadd, 1) := by decide +kernel
theorem dX12_readModule_152 : decode cX12_readModule 152 = .ok (.putfield 434, 3) := by decide +kernel
theorem dX12_readModule_155 : decode cX12_readModule 155 = .ok (.aload_n 0, 1) := by decide +kernel
theorem dX12_readModule_156 : decode cX12_readModule 156 = .ok (.bipush 123, 2) := by decide +kernel
theorem dX12_readModule_158 : decode cX12_readModule 158 = .ok (.invokevirtual 479, 3) := by decide +kernel
theorem dX12_readModule_161 : decode cX12_readModule 161 = .ok (.aload_n 0, 1) := by decide +kernel
theorem dX12_readModule_162 : decode cX12_readModule 162 = .ok (.iconst 2, 1) := by decide +kernel
theorem dX12_readModule_163 : decode cX12_readModule 163 = .ok (.invokevirtual 394, 3) := by decide +kernel
theorem dX12_readModule_166 : decode cX12_readModule 166 = .ok (.ifCond .eq 21, 3) := by decide +kernel
theorem dX12_readModule_169 : decode cX12_readModule 169 = .ok (.aload_n 0, 1) := by decide +kernel
theorem dX12_readModule_170 : decode cX12_readModule 170 = .ok (.invokevirtual 388, 3) := by decide +kernel
theorem dX12_readModule_173 : decode cX12_readModule 173 = .ok (.aload_n 0, 1) := by decide +kernel
theorem dX12_readModule_174 : decode cX12_readModule 174 = .ok (.iload_n 1, 1) := by decide +kernel
theorem dX12_readModule_175 : decode cX12_readModule 175 = .ok (.invokevirtual 491, 3) := by decide +kernel
theorem dX12_readModule_178 : decode cX12_readModule 178 = .ok (.aload_n 0, 1) := by decide +kernel
theorem dX12_readModule_179 : decode cX12_readModule 179 = .ok (.bipush 59, 2) := by decide +kernel
theorem dX12_readModule_181 : decode cX12_readModule 181 = .ok (.invokevirtual 479, 3) := by decide +kernel
theorem dX12_readModule_184 : decode cX12_readModule 184 = .ok (.goto (-23), 3) := by decide +kernel
theorem dX12_readModule_187 : decode cX12_readModule 187 = .ok (.aload_n 0, 1) := by decide +kernel
theorem dX12_readModule_188 : decode cX12_readModule 188 = .ok (.invokevirtual 332, 3) := by decide +kernel
theorem dX12_readModule_191 : decode cX12_readModule 191 = .ok (.ifCond .eq 19, 3) := by decide +kernel
theorem dX12_readModule_194 : decode cX12_readModule 194 = .ok (.aload_n 0, 1) := by decide +kernel
theorem dX12_readModule_195 : decode cX12_readModule 195 = .ok (.getfield 292, 3) := by decide +kernel
theorem dX12_readModule_198 : decode cX12_readModule 198 = .ok (.iconst 1, 1) := by decide +kernel
theorem dX12_readModule_199 : decode cX12_readModule 199 = .ok (.if_icmp .ne 11, 3) := by decide +kernel
theorem dX12_readModule_202 : decode cX12_readModule 202 = .ok (.aload_n 0, 1) := by decide +kernel
theorem dX12_readModule_203 : decode cX12_readModule 203 = .ok (.iload_n 1, 1) := by decide +kernel
theorem dX12_readModule_204 : decode cX12_readModule 204 = .ok (.invokevirtual 494, 3) := by decide +kernel
theorem dX12_readModule_207 : decode cX12_readModule 207 = .ok (.goto (-20), 3) := by decide +kernel
theorem dX12_readModule_210 : decode cX12_readModule 210 = .ok (.aload_n 0, 1) := by decide +kernel
theorem dX12_readModule_211 : decode cX12_readModule 211 = .ok (.bipush 125, 2) := by decide +kernel
theorem dX12_readModule_213 : decode cX12_readModule 213 = .ok (.invokevirtual 479, 3) := by decide +kernel
theorem dX12_readModule_216 : decode cX12_readModule 216 = .ok (.return_, 1) := by decide +kernel
theorem dX12_readField_0 : decode cX12_readField 0 = .ok (.aload_n 0, 1) := by decide +kernel
theorem dX12_readField_1 : decode cX12_readField 1 = .ok (.invokevirtual 400, 3) := by decide +kernel
theorem dX12_readField_4 : decode cX12_readField 4 = .ok (.ifCond .ne 4, 3) := by decide +kernel
theorem dX12_readField_7 : decode cX12_readField 7 = .ok (.return_, 1) := by decide +kernel
theorem dX12_readField_8 : decode cX12_readField 8 = .ok (.aload_n 0, 1) := by decide +kernel
theorem dX12_readField_9 : decode cX12_readField 9 = .ok (.getfield 45, 3) := by decide +kernel
theorem dX12_readField_12 : decode cX12_readField 12 = .ok (.iload_n 1, 1) := by decide +kernel
theorem dX12_readField_13 : decode cX12_readField 13 = .ok (.iaload, 1) := by decide +kernel
theorem dX12_readField_14 : decode cX12_readField 14 = .ok (.iconst 4, 1) := by decide +kernel
theorem dX12_readField_15 : decode cX12_readField 15 = .ok (.if_icmp .ne 11, 3) := by decide +kernel
theorem dX12_readField_18 : decode cX12_readField 18 = .ok (.aload_n 0, 1) := by decide +kernel
theorem dX12_readField_19 : decode cX12_readField 19 = .ok (.iconst 4, 1) := by decide +kernel
theorem dX12_readField_20 : decode cX12_readField 20 = .ok (.invokevirtual 362, 3) := by decide +kernel
theorem dX12_readField_23 : decode cX12_readField 23 = .ok (.goto 57, 3) := by decide +kernel
theorem dX12_readField_26 : decode cX12_readField 26 = .ok (.aload_n 0, 1) := by decide +kernel
theorem dX12_readField_27 : decode cX12_readField 27 = .ok (.iload_n 1, 1) := by decide +kernel
theorem dX12_readField_28 : decode cX12_readField 28 = .ok (.aload_n 0, 1) := by decide +kernel
theorem dX12_readField_29 : decode cX12_readField 29 = .ok (.getfield 358, 3) := by decide +kernel
theorem dX12_readField_32 : decode cX12_readField 32 = .ok (.invokevirtual 497, 3) := by decide +kernel
theorem dX12_readField_35 : decode cX12_readField 35 = .ok (.iconst (-1), 1) := by decide +kernel
theorem dX12_readField_36 : decode cX12_readField 36 = .ok (.if_icmp .eq 11, 3) := by decide +kernel
theorem dX12_readField_39 : decode cX12_readField 39 = .ok (.aload_n 0, 1) := by decide +kernel
theorem dX12_readField_40 : decode cX12_readField 40 = .ok (.iconst 2, 1) := by decide +kernel
theorem dX12_readField_41 : decode cX12_readField 41 = .ok (.invokevirtual 362, 3) := by decide +kernel
theorem dX12_readField_44 : decode cX12_readField 44 = .ok (.goto 36, 3) := by decide +kernel
theorem dX12_readField_47 : decode cX12_readField 47 = .ok (.aload_n 0, 1) := by decide +kernel
theorem dX12_readField_48 : decode cX12_readField 48 = .ok (.getfield 48, 3) := by decide +kernel
theorem dX12_readField_51 : decode cX12_readField 51 = .ok (.iconst 4, 1) := by decide +kernel
theorem dX12_readField_52 : decode cX12_readField 52 = .ok (.iload_n 1, 1) := by decide +kernel
theorem dX12_readField_53 : decode cX12_readField 53 = .ok (.imul, 1) := by decide +kernel
theorem dX12_readField_54 : decode cX12_readField 54 = .ok (.aload_n 0, 1) := by decide +kernel
theorem dX12_readField_55 : decode cX12_readField 55 = .ok (.getfield 45, 3) := by decide +kernel
theorem dX12_readField_58 : decode cX12_readField 58 = .ok (.iload_n 1, 1) := by decide +kernel
theorem dX12_readField_59 : decode cX12_readField 59 = .ok (.iaload, 1) := by decide +kernel
theorem dX12_readField_60 : decode cX12_readField 60 = .ok (.iadd, 1) := by decide +kernel
theorem dX12_readField_61 : decode cX12_readField 61 = .ok (.aload_n 0, 1) := by decide +kernel
theorem dX12_readField_62 : decode cX12_readField 62 = .ok (.getfield 358, 3) := by decide +kernel
theorem dX12_readField_65 : decode cX12_readField 65 = .ok (.lastore, 1) := by decide +kernel
theorem dX12_readField_66 : decode cX12_readField 66 = .ok (.aload_n 0, 1) := by decide +kernel
theorem dX12_readField_67 : decode cX12_readField 67 = .ok (.getfield 45, 3) := by decide +kernel
theorem dX12_readField_70 : decode cX12_readField 70 = .ok (.iload_n 1, 1) := by decide +kernel
theorem dX12_readField_71 : decode cX12_readField 71 = .ok (.dup2, 1) := by decide +kernel
theorem dX12_readField_72 : decode cX12_readField 72 = .ok (.iaload, 1) := by decide +kernel
theorem dX12_readField_73 : decode cX12_readField 73 = .ok (.iconst 1, 1) := by decide +kernel
theorem dX12_readField_74 : decode cX12_readField 74 = .ok (.iadd, 1) := by decide +kernel
theorem dX12_readField_75 : decode cX12_readField 75 = .ok (.iastore, 1) := by decide +kernel
theorem dX12_readField_76 : decode cX12_readField 76 = .ok (.aload_n 0, 1) := by decide +kernel
theorem dX12_readField_77 : decode cX12_readField 77 = .ok (.invokevirtual 388, 3) := by decide +kernel
theorem dX12_readField_80 : decode cX12_readField 80 = .ok (.return_, 1) := by decide +kernel
theorem dX12_fieldsAbove_0 : decode cX12_fieldsAbove 0 = .ok (.iconst 0, 1) := by decide +kernel
theorem dX12_fieldsAbove_1 : decode cX12_fieldsAbove 1 = .ok (.istore_n 2, 1) := by decide +kernel
theorem dX12_fieldsAbove_2 : decode cX12_fieldsAbove 2 = .ok (.aload_n 0, 1) := by decide +kernel
theorem dX12_fieldsAbove_3 : decode cX12_fieldsAbove 3 = .ok (.getfield 42, 3) := by decide +kernel
theorem dX12_fieldsAbove_6 : decode cX12_fieldsAbove 6 = .ok (.iload_n 1, 1) := by decide +kernel
theorem dX12_fieldsAbove_7 : decode cX12_fieldsAbove 7 = .ok (.iaload, 1) := by decide +kernel
theorem dX12_fieldsAbove_8 : decode cX12_fieldsAbove 8 = .ok (.istore_n 3, 1) := by decide +kernel
theorem dX12_fieldsAbove_9 : decode cX12_fieldsAbove 9 = .ok (.iload_n 3, 1) := by decide +kernel
theorem dX12_fieldsAbove_10 : decode cX12_fieldsAbove 10 = .ok (.iconst (-1), 1) := by decide +kernel
theorem dX12_fieldsAbove_11 : decode cX12_fieldsAbove 11 = .ok (.if_icmp .eq 22, 3) := by decide +kernel
theorem dX12_fieldsAbove_14 : decode cX12_fieldsAbove 14 = .ok (.iload_n 2, 1) := by decide +kernel
theorem dX12_fieldsAbove_15 : decode cX12_fieldsAbove 15 = .ok (.aload_n 0, 1) := by decide +kernel
theorem dX12_fieldsAbove_16 : decode cX12_fieldsAbove 16 = .ok (.getfield 45, 3) := by decide +kernel
theorem dX12_fieldsAbove_19 : decode cX12_fieldsAbove 19 = .ok (.iload_n 3, 1) := by decide +kernel
theorem dX12_fieldsAbove_20 : decode cX12_fieldsAbove 20 = .ok (.iaload, 1) := by decide +kernel
theorem dX12_fieldsAbove_21 : decode cX12_fieldsAbove 21 = .ok (.iadd, 1) := by decide +kernel
theorem dX12_fieldsAbove_22 : decode cX12_fieldsAbove 22 = .ok (.istore_n 2, 1) := by decide +kernel
theorem dX12_fieldsAbove_23 : decode cX12_fieldsAbove 23 = .ok (.aload_n 0, 1) := by decide +kernel
theorem dX12_fieldsAbove_24 : decode cX12_fieldsAbove 24 = .ok (.getfield 42, 3) := by decide +kernel
theorem dX12_fieldsAbove_27 : decode cX12_fieldsAbove 27 = .ok (.iload_n 3, 1) := by decide +kernel
theorem dX12_fieldsAbove_28 : decode cX12_fieldsAbove 28 = .ok (.iaload, 1) := by decide +kernel
theorem dX12_fieldsAbove_29 : decode cX12_fieldsAbove 29 = .ok (.istore_n 3, 1) := by decide +kernel
theorem dX12_fieldsAbove_30 : decode cX12_fieldsAbove 30 = .ok (.goto (-21), 3) := by decide +kernel
theorem dX12_fieldsAbove_33 : decode cX12_fieldsAbove 33 = .ok (.iload_n 2, 1) := by decide +kernel
theorem dX12_fieldsAbove_34 : decode cX12_fieldsAbove 34 = .ok (.ireturn, 1) := by decide +kernel
theorem dX12_fieldOf_0 : decode cX12_fieldOf 0 = .ok (.iload_n 1, 1) := by decide +kernel
theorem dX12_fieldOf_1 : decode cX12_fieldOf 1 = .ok (.istore 4, 2) := by decide +kernel
theorem dX12_fieldOf_3 : decode cX12_fieldOf 3 = .ok (.iload 4, 2) := by decide +kernel
theorem dX12_fieldOf_5 : decode cX12_fieldOf 5 = .ok (.iconst (-1), 1) := by decide +kernel
theorem dX12_fieldOf_6 : decode cX12_fieldOf 6 = .ok (.if_icmp .eq 63, 3) := by decide +kernel
theorem dX12_fieldOf_9 : decode cX12_fieldOf 9 = .ok (.iconst 0, 1) := by decide +kernel
theorem dX12_fieldOf_10 : decode cX12_fieldOf 10 = .ok (.istore 5, 2) := by decide +kernel
theorem dX12_fieldOf_12 : decode cX12_fieldOf 12 = .ok (.iload 5, 2) := by decide +kernel
theorem dX12_fieldOf_14 : decode cX12_fieldOf 14 = .ok (.aload_n 0, 1) := by decide +kernel
theorem dX12_fieldOf_15 : decode cX12_fieldOf 15 = .ok (.getfield 45, 3) := by decide +kernel
theorem dX12_fieldOf_18 : decode cX12_fieldOf 18 = .ok (.iload 4, 2) := by decide +kernel
theorem dX12_fieldOf_20 : decode cX12_fieldOf 20 = .ok (.iaload, 1) := by decide +kernel
theorem dX12_fieldOf_21 : decode cX12_fieldOf 21 = .ok (.if_icmp .ge 36, 3) := by decide +kernel
theorem dX12_fieldOf_24 : decode cX12_fieldOf 24 = .ok (.aload_n 0, 1) := by decide +kernel
theorem dX12_fieldOf_25 : decode cX12_fieldOf 25 = .ok (.getfield 48, 3) := by decide +kernel
theorem dX12_fieldOf_28 : decode cX12_fieldOf 28 = .ok (.iconst 4, 1) := by decide +kernel
theorem dX12_fieldOf_29 : decode cX12_fieldOf 29 = .ok (.iload 4, 2) := by decide +kernel
theorem dX12_fieldOf_31 : decode cX12_fieldOf 31 = .ok (.imul, 1) := by decide +kernel
theorem dX12_fieldOf_32 : decode cX12_fieldOf 32 = .ok (.iload 5, 2) := by decide +kernel
theorem dX12_fieldOf_34 : decode cX12_fieldOf 34 = .ok (.iadd, 1) := by decide +kernel
theorem dX12_fieldOf_35 : decode cX12_fieldOf 35 = .ok (.laload, 1) := by decide +kernel
theorem dX12_fieldOf_36 : decode cX12_fieldOf 36 = .ok (.lload_n 2, 1) := by decide +kernel
theorem dX12_fieldOf_37 : decode cX12_fieldOf 37 = .ok (.lcmp, 1) := by decide +kernel
theorem dX12_fieldOf_38 : decode cX12_fieldOf 38 = .ok (.ifCond .ne 13, 3) := by decide +kernel
theorem dX12_fieldOf_41 : decode cX12_fieldOf 41 = .ok (.aload_n 0, 1) := by decide +kernel
theorem dX12_fieldOf_42 : decode cX12_fieldOf 42 = .ok (.iload 4, 2) := by decide +kernel
theorem dX12_fieldOf_44 : decode cX12_fieldOf 44 = .ok (.invokevirtual 501, 3) := by decide +kernel
theorem dX12_fieldOf_47 : decode cX12_fieldOf 47 = .ok (.iload 5, 2) := by decide +kernel
theorem dX12_fieldOf_49 : decode cX12_fieldOf 49 = .ok (.iadd, 1) := by decide +kernel
theorem dX12_fieldOf_50 : decode cX12_fieldOf 50 = .ok (.ireturn, 1) := by decide +kernel
theorem dX12_fieldOf_51 : decode cX12_fieldOf 51 = .ok (.iinc 5 1, 3) := by decide +kernel
theorem dX12_fieldOf_54 : decode cX12_fieldOf 54 = .ok (.goto (-42), 3) := by decide +kernel
theorem dX12_fieldOf_57 : decode cX12_fieldOf 57 = .ok (.aload_n 0, 1) := by decide +kernel
theorem dX12_fieldOf_58 : decode cX12_fieldOf 58 = .ok (.getfield 42, 3) := by decide +kernel
theorem dX12_fieldOf_61 : decode cX12_fieldOf 61 = .ok (.iload 4, 2) := by decide +kernel
theorem dX12_fieldOf_63 : decode cX12_fieldOf 63 = .ok (.iaload, 1) := by decide +kernel
theorem dX12_fieldOf_64 : decode cX12_fieldOf 64 = .ok (.istore 4, 2) := by decide +kernel
theorem dX12_fieldOf_66 : decode cX12_fieldOf 66 = .ok (.goto (-63), 3) := by decide +kernel
theorem dX12_fieldOf_69 : decode cX12_fieldOf 69 = .ok (.iconst (-1), 1) := by decide +kernel
theorem dX12_fieldOf_70 : decode cX12_fieldOf 70 = .ok (.ireturn, 1) := by decide +kernel
theorem dX12_countsPart_0 : decode cX12_countsPart 0 = .ok (.aload_n 0, 1) := by decide +kernel
theorem dX12_countsPart_1 : decode cX12_countsPart 1 = .ok (.invokevirtual 332, 3) := by decide +kernel
theorem dX12_countsPart_4 : decode cX12_countsPart 4 = .ok (.ifCond .eq 18, 3) := by decide +kernel
theorem dX12_countsPart_7 : decode cX12_countsPart 7 = .ok (.aload_n 0, 1) := by decide +kernel
theorem dX12_countsPart_8 : decode cX12_countsPart 8 = .ok (.getfield 455, 3) := by decide +kernel
theorem dX12_countsPart_11 : decode cX12_countsPart 11 = .ok (.sipush 400, 3) := by decide +kernel
theorem dX12_countsPart_14 : decode cX12_countsPart 14 = .ok (.if_icmp .ne 8, 3) := by decide +kernel
theorem dX12_countsPart_17 : decode cX12_countsPart 17 = .ok (.aload_n 0, 1) := by decide +kernel
theorem dX12_countsPart_18 : decode cX12_countsPart 18 = .ok (.iconst 4, 1) := by decide +kernel
theorem dX12_countsPart_19 : decode cX12_countsPart 19 = .ok (.invokevirtual 362, 3) := by decide +kernel
theorem dX12_countsPart_22 : decode cX12_countsPart 22 = .ok (.aload_n 0, 1) := by decide +kernel
theorem dX12_countsPart_23 : decode cX12_countsPart 23 = .ok (.dup, 1) := by decide +kernel
theorem dX12_countsPart_24 : decode cX12_countsPart 24 = .ok (.getfield 455, 3) := by decide +kernel
theorem dX12_countsPart_27 : decode cX12_countsPart 27 = .ok (.iconst 1, 1) := by decide +kernel
theorem dX12_countsPart_28 : decode cX12_countsPart 28 = .ok (.iadd, 1) := by decide +kernel
theorem dX12_countsPart_29 : decode cX12_countsPart 29 = .ok (.putfield 455, 3) := by decide +kernel
theorem dX12_countsPart_32 : decode cX12_countsPart 32 = .ok (.aload_n 0, 1) := by decide +kernel
theorem dX12_countsPart_33 : decode cX12_countsPart 33 = .ok (.invokevirtual 332, 3) := by decide +kernel
theorem dX12_countsPart_36 : decode cX12_countsPart 36 = .ok (.ireturn, 1) := by decide +kernel
theorem dX12_newUnit_0 : decode cX12_newUnit 0 = .ok (.aload_n 0, 1) := by decide +kernel
theorem dX12_newUnit_1 : decode cX12_newUnit 1 = .ok (.invokevirtual 332, 3) := by decide +kernel
theorem dX12_newUnit_4 : decode cX12_newUnit 4 = .ok (.ifCond .ne 5, 3) := by decide +kernel
theorem dX12_newUnit_7 : decode cX12_newUnit 7 = .ok (.iconst 0, 1) := by decide +kernel
theorem dX12_newUnit_8 : decode cX12_newUnit 8 = .ok (.ireturn, 1) := by decide +kernel
theorem dX12_newUnit_9 : decode cX12_newUnit 9 = .ok (.aload_n 0, 1) := by decide +kernel
theorem dX12_newUnit_10 : decode cX12_newUnit 10 = .ok (.getfield 437, 3) := by decide +kernel
theorem dX12_newUnit_13 : decode cX12_newUnit 13 = .ok (.bipush 60, 2) := by decide +kernel
theorem dX12_newUnit_15 : decode cX12_newUnit 15 = .ok (.if_icmp .ne 10, 3) := by decide +kernel
theorem dX12_newUnit_18 : decode cX12_newUnit 18 = .ok (.aload_n 0, 1) := by decide +kernel
theorem dX12_newUnit_19 : decode cX12_newUnit 19 = .ok (.iconst 4, 1) := by decide +kernel
theorem dX12_newUnit_20 : decode cX12_newUnit 20 = .ok (.invokevirtual 362, 3) := by decide +kernel
theorem dX12_newUnit_23 : decode cX12_newUnit 23 = .ok (.iconst 0, 1) := by decide +kernel
theorem dX12_newUnit_24 : decode cX12_newUnit 24 = .ok (.ireturn, 1) := by decide +kernel
theorem dX12_newUnit_25 : decode cX12_newUnit 25 = .ok (.aload_n 0, 1) := by decide +kernel
theorem dX12_newUnit_26 : decode cX12_newUnit 26 = .ok (.getfield 437, 3) := by decide +kernel
theorem dX12_newUnit_29 : decode cX12_newUnit 29 = .ok (.istore 4, 2) := by decide +kernel
theorem dX12_newUnit_31 : decode cX12_newUnit 31 = .ok (.aload_n 0, 1) := by decide +kernel
theorem dX12_newUnit_32 : decode cX12_newUnit 32 = .ok (.dup, 1) := by decide +kernel
theorem dX12_newUnit_33 : decode cX12_newUnit 33 = .ok (.getfield 437, 3) := by decide +kernel
theorem dX12_newUnit_36 : decode cX12_newUnit 36 = .ok (.iconst 1, 1) := by decide +kernel
theorem dX12_newUnit_37 : decode cX12_newUnit 37 = .ok (.iadd, 1) := by decide +kernel
theorem dX12_newUnit_38 : decode cX12_newUnit 38 = .ok (.putfield 437, 3) := by decide +kernel
theorem dX12_newUnit_41 : decode cX12_newUnit 41 = .ok (.aload_n 0, 1) := by decide +kernel
theorem dX12_newUnit_42 : decode cX12_newUnit 42 = .ok (.getfield 63, 3) := by decide +kernel
theorem dX12_newUnit_45 : decode cX12_newUnit 45 = .ok (.iload 4, 2) := by decide +kernel
theorem dX12_newUnit_47 : decode cX12_newUnit 47 = .ok (.iload_n 1, 1) := by decide +kernel
theorem dX12_newUnit_48 : decode cX12_newUnit 48 = .ok (.iastore, 1) := by decide +kernel
theorem dX12_newUnit_49 : decode cX12_newUnit 49 = .ok (.aload_n 0, 1) := by decide +kernel
theorem dX12_newUnit_50 : decode cX12_newUnit 50 = .ok (.getfield 66, 3) := by decide +kernel
theorem dX12_newUnit_53 : decode cX12_newUnit 53 = .ok (.iload 4, 2) := by decide +kernel
theorem dX12_newUnit_55 : decode cX12_newUnit 55 = .ok (.iload_n 2, 1) := by decide +kernel
theorem dX12_newUnit_56 : decode cX12_newUnit 56 = .ok (.iastore, 1) := by decide +kernel
theorem dX12_newUnit_57 : decode cX12_newUnit 57 = .ok (.aload_n 0, 1) := by decide +kernel
theorem dX12_newUnit_58 : decode cX12_newUnit 58 = .ok (.getfield 69, 3) := by decide +kernel
theorem dX12_newUnit_61 : decode cX12_newUnit 61 = .ok (.iload 4, 2) := by decide +kernel
theorem dX12_newUnit_63 : decode cX12_newUnit 63 = .ok (.aload_n 0, 1) := by decide +kernel
theorem dX12_newUnit_64 : decode cX12_newUnit 64 = .ok (.getfield 295, 3) := by decide +kernel
theorem dX12_newUnit_67 : decode cX12_newUnit 67 = .ok (.iastore, 1) := by decide +kernel
theorem dX12_newUnit_68 : decode cX12_newUnit 68 = .ok (.aload_n 0, 1) := by decide +kernel
theorem dX12_newUnit_69 : decode cX12_newUnit 69 = .ok (.getfield 72, 3) := by decide +kernel
theorem dX12_newUnit_72 : decode cX12_newUnit 72 = .ok (.iload 4, 2) := by decide +kernel
theorem dX12_newUnit_74 : decode cX12_newUnit 74 = .ok (.iconst 0, 1) := by decide +kernel
theorem dX12_newUnit_75 : decode cX12_newUnit 75 = .ok (.iastore, 1) := by decide +kernel
theorem dX12_newUnit_76 : decode cX12_newUnit 76 = .ok (.aload_n 0, 1) := by decide +kernel
theorem dX12_newUnit_77 : decode cX12_newUnit 77 = .ok (.getfield 75, 3) := by decide +kernel
theorem dX12_newUnit_80 : decode cX12_newUnit 80 = .ok (.iload 4, 2) := by decide +kernel
theorem dX12_newUnit_82 : decode cX12_newUnit 82 = .ok (.iload_n 3, 1) := by decide +kernel
theorem dX12_newUnit_83 : decode cX12_newUnit 83 = .ok (.iastore, 1) := by decide +kernel
theorem dX12_newUnit_84 : decode cX12_newUnit 84 = .ok (.aload_n 0, 1) := by decide +kernel
theorem dX12_newUnit_85 : decode cX12_newUnit 85 = .ok (.getfield 87, 3) := by decide +kernel
theorem dX12_newUnit_88 : decode cX12_newUnit 88 = .ok (.iload 4, 2) := by decide +kernel
theorem dX12_newUnit_90 : decode cX12_newUnit 90 = .ok (.iconst 0, 1) := by decide +kernel
theorem dX12_newUnit_91 : decode cX12_newUnit 91 = .ok (.iastore, 1) := by decide +kernel
theorem dX12_newUnit_92 : decode cX12_newUnit 92 = .ok (.aload_n 0, 1) := by decide +kernel
theorem dX12_newUnit_93 : decode cX12_newUnit 93 = .ok (.getfield 93, 3) := by decide +kernel
theorem dX12_newUnit_96 : decode cX12_newUnit 96 = .ok (.iload 4, 2) := by decide +kernel
theorem dX12_newUnit_98 : decode cX12_newUnit 98 = .ok (.iconst 0, 1) := by decide +kernel
theorem dX12_newUnit_99 : decode cX12_newUnit 99 = .ok (.iastore, 1) := by decide +kernel
theorem dX12_newUnit_100 : decode cX12_newUnit 100 = .ok (.aload_n 0, 1) := by decide +kernel
theorem dX12_newUnit_101 : decode cX12_newUnit 101 = .ok (.getfield 81, 3) := by decide +kernel
theorem dX12_newUnit_104 : decode cX12_newUnit 104 = .ok (.iload 4, 2) := by decide +kernel
theorem dX12_newUnit_106 : decode cX12_newUnit 106 = .ok (.iconst (-1), 1) := by decide +kernel
theorem dX12_newUnit_107 : decode cX12_newUnit 107 = .ok (.iastore, 1) := by decide +kernel
theorem dX12_newUnit_108 : decode cX12_newUnit 108 = .ok (.aload_n 0, 1) := by decide +kernel
theorem dX12_newUnit_109 : decode cX12_newUnit 109 = .ok (.getfield 115, 3) := by decide +kernel
theorem dX12_newUnit_112 : decode cX12_newUnit 112 = .ok (.iload 4, 2) := by decide +kernel
theorem dX12_newUnit_114 : decode cX12_newUnit 114 = .ok (.iconst (-1), 1) := by decide +kernel
theorem dX12_newUnit_115 : decode cX12_newUnit 115 = .ok (.iastore, 1) := by decide +kernel
theorem dX12_newUnit_116 : decode cX12_newUnit 116 = .ok (.aload_n 0, 1) := by decide +kernel
theorem dX12_newUnit_117 : decode cX12_newUnit 117 = .ok (.getfield 84, 3) := by decide +kernel
theorem dX12_newUnit_120 : decode cX12_newUnit 120 = .ok (.iload 4, 2) := by decide +kernel
theorem dX12_newUnit_122 : decode cX12_newUnit 122 = .ok (.aload_n 0, 1) := by decide +kernel
theorem dX12_newUnit_123 : decode cX12_newUnit 123 = .ok (.getfield 358, 3) := by decide +kernel
theorem dX12_newUnit_126 : decode cX12_newUnit 126 = .ok (.lastore, 1) := by decide +kernel
theorem dX12_newUnit_127 : decode cX12_newUnit 127 = .ok (.iload 4, 2) := by decide +kernel
theorem dX12_newUnit_129 : decode cX12_newUnit 129 = .ok (.ireturn, 1) := by decide +kernel
theorem dX12_newVariable_0 : decode cX12_newVariable 0 = .ok (.aload_n 0, 1) := by decide +kernel
theorem dX12_newVariable_1 : decode cX12_newVariable 1 = .ok (.getfield 443, 3) := by decide +kernel
theorem dX12_newVariable_4 : decode cX12_newVariable 4 = .ok (.istore 6, 2) := by decide +kernel
theorem dX12_newVariable_6 : decode cX12_newVariable 6 = .ok (.aload_n 0, 1) := by decide +kernel
theorem dX12_newVariable_7 : decode cX12_newVariable 7 = .ok (.dup, 1) := by decide +kernel
theorem dX12_newVariable_8 : decode cX12_newVariable 8 = .ok (.getfield 443, 3) := by decide +kernel
theorem dX12_newVariable_11 : decode cX12_newVariable 11 = .ok (.iconst 1, 1) := by decide +kernel
theorem dX12_newVariable_12 : decode cX12_newVariable 12 = .ok (.iadd, 1) := by decide +kernel
theorem dX12_newVariable_13 : decode cX12_newVariable 13 = .ok (.putfield 443, 3) := by decide +kernel
theorem dX12_newVariable_16 : decode cX12_newVariable 16 = .ok (.aload_n 0, 1) := by decide +kernel
theorem dX12_newVariable_17 : decode cX12_newVariable 17 = .ok (.getfield 103, 3) := by decide +kernel
theorem dX12_newVariable_20 : decode cX12_newVariable 20 = .ok (.iload 6, 2) := by decide +kernel
theorem dX12_newVariable_22 : decode cX12_newVariable 22 = .ok (.iload_n 1, 1) := by decide +kernel
theorem dX12_newVariable_23 : decode cX12_newVariable 23 = .ok (.iastore, 1) := by decide +kernel
theorem dX12_newVariable_24 : decode cX12_newVariable 24 = .ok (.aload_n 0, 1) := by decide +kernel
theorem dX12_newVariable_25 : decode cX12_newVariable 25 = .ok (.getfield 106, 3) := by decide +kernel
theorem dX12_newVariable_28 : decode cX12_newVariable 28 = .ok (.iload 6, 2) := by decide +kernel
theorem dX12_newVariable_30 : decode cX12_newVariable 30 = .ok (.lload_n 2, 1) := by decide +kernel
theorem dX12_newVariable_31 : decode cX12_newVariable 31 = .ok (.lastore, 1) := by decide +kernel
theorem dX12_newVariable_32 : decode cX12_newVariable 32 = .ok (.aload_n 0, 1) := by decide +kernel
theorem dX12_newVariable_33 : decode cX12_newVariable 33 = .ok (.getfield 109, 3) := by decide +kernel
theorem dX12_newVariable_36 : decode cX12_newVariable 36 = .ok (.iload 6, 2) := by decide +kernel
theorem dX12_newVariable_38 : decode cX12_newVariable 38 = .ok (.iload 4, 2) := by decide +kernel
theorem dX12_newVariable_40 : decode cX12_newVariable 40 = .ok (.iastore, 1) := by decide +kernel
theorem dX12_newVariable_41 : decode cX12_newVariable 41 = .ok (.aload_n 0, 1) := by decide +kernel
theorem dX12_newVariable_42 : decode cX12_newVariable 42 = .ok (.getfield 112, 3) := by decide +kernel
theorem dX12_newVariable_45 : decode cX12_newVariable 45 = .ok (.iload 6, 2) := by decide +kernel
theorem dX12_newVariable_47 : decode cX12_newVariable 47 = .ok (.iload 5, 2) := by decide +kernel
theorem dX12_newVariable_49 : decode cX12_newVariable 49 = .ok (.bastore, 1) := by decide +kernel
theorem dX12_newVariable_50 : decode cX12_newVariable 50 = .ok (.iload 6, 2) := by decide +kernel
theorem dX12_newVariable_52 : decode cX12_newVariable 52 = .ok (.ireturn, 1) := by decide +kernel
theorem dX12_readMethod_0 : decode cX12_readMethod 0 = .ok (.aload_n 0, 1) := by decide +kernel
theorem dX12_readMethod_1 : decode cX12_readMethod 1 = .ok (.getfield 51, 3) := by decide +kernel
theorem dX12_readMethod_4 : decode cX12_readMethod 4 = .ok (.iload_n 1, 1) := by decide +kernel
theorem dX12_readMethod_5 : decode cX12_readMethod 5 = .ok (.iaload, 1) := by decide +kernel
theorem dX12_readMethod_6 : decode cX12_readMethod 6 = .ok (.bipush 12, 2) := by decide +kernel
theorem dX12_readMethod_8 : decode cX12_readMethod 8 = .ok (.if_icmp .ne 9, 3) := by decide +kernel
theorem dX12_readMethod_11 : decode cX12_readMethod 11 = .ok (.aload_n 0, 1) := by decide +kernel
theorem dX12_readMethod_12 : decode cX12_readMethod 12 = .ok (.iconst 4, 1) := by decide +kernel
theorem dX12_readMethod_13 : decode cX12_readMethod 13 = .ok (.invokevirtual 362, 3) := by decide +kernel
theorem dX12_readMethod_16 : decode cX12_readMethod 16 = .ok (.return_, 1) := by decide +kernel
theorem dX12_readMethod_17 : decode cX12_readMethod 17 = .ok (.aload_n 0, 1) := by decide +kernel
theorem dX12_readMethod_18 : decode cX12_readMethod 18 = .ok (.getfield 295, 3) := by decide +kernel
theorem dX12_readMethod_21 : decode cX12_readMethod 21 = .ok (.istore_n 2, 1) := by decide +kernel
theorem dX12_readMethod_22 : decode cX12_readMethod 22 = .ok (.aload_n 0, 1) := by decide +kernel
theorem dX12_readMethod_23 : decode cX12_readMethod 23 = .ok (.iconst 0, 1) := by decide +kernel
theorem dX12_readMethod_24 : decode cX12_readMethod 24 = .ok (.iload_n 1, 1) := by decide +kernel
theorem dX12_readMethod_25 : decode cX12_readMethod 25 = .ok (.iconst (-1), 1) := by decide +kernel
theorem dX12_readMethod_26 : decode cX12_readMethod 26 = .ok (.invokevirtual 504, 3) := by decide +kernel
theorem dX12_readMethod_29 : decode cX12_readMethod 29 = .ok (.istore_n 3, 1) := by decide +kernel
theorem dX12_readMethod_30 : decode cX12_readMethod 30 = .ok (.aload_n 0, 1) := by decide +kernel
theorem dX12_readMethod_31 : decode cX12_readMethod 31 = .ok (.invokevirtual 332, 3) := by decide +kernel
theorem dX12_readMethod_34 : decode cX12_readMethod 34 = .ok (.ifCond .ne 4, 3) := by decide +kernel
theorem dX12_readMethod_37 : decode cX12_readMethod 37 = .ok (.return_, 1) := by decide +kernel
theorem dX12_readMethod_38 : decode cX12_readMethod 38 = .ok (.aload_n 0, 1) := by decide +kernel
theorem dX12_readMethod_39 : decode cX12_readMethod 39 = .ok (.invokevirtual 388, 3) := by decide +kernel
theorem dX12_readMethod_42 : decode cX12_readMethod 42 = .ok (.aload_n 0, 1) := by decide +kernel
theorem dX12_readMethod_43 : decode cX12_readMethod 43 = .ok (.getfield 446, 3) := by decide +kernel
theorem dX12_readMethod_46 : decode cX12_readMethod 46 = .ok (.istore 4, 2) := by decide +kernel
theorem dX12_readMethod_48 : decode cX12_readMethod 48 = .ok (.aload_n 0, 1) := by decide +kernel
theorem dX12_readMethod_49 : decode cX12_readMethod 49 = .ok (.getfield 115, 3) := by decide +kernel
theorem dX12_readMethod_52 : decode cX12_readMethod 52 = .ok (.iload_n 3, 1) := by decide +kernel
theorem dX12_readMethod_53 : decode cX12_readMethod 53 = .ok (.aload_n 0, 1) := by decide +kernel
theorem dX12_readMethod_54 : decode cX12_readMethod 54 = .ok (.iload_n 3, 1) := by decide +kernel
theorem dX12_readMethod_55 : decode cX12_readMethod 55 = .ok (.lconst 0, 1) := by decide +kernel
theorem dX12_readMethod_56 : decode cX12_readMethod 56 = .ok (.iconst 0, 1) := by decide +kernel
theorem dX12_readMethod_57 : decode cX12_readMethod 57 = .ok (.iconst 0, 1) := by decide +kernel
theorem dX12_readMethod_58 : decode cX12_readMethod 58 = .ok (.invokevirtual 508, 3) := by decide +kernel
theorem dX12_readMethod_61 : decode cX12_readMethod 61 = .ok (.iastore, 1) := by decide +kernel
theorem dX12_readMethod_62 : decode cX12_readMethod 62 = .ok (.aload_n 0, 1) := by decide +kernel
theorem dX12_readMethod_63 : decode cX12_readMethod 63 = .ok (.iload_n 3, 1) := by decide +kernel
theorem dX12_readMethod_64 : decode cX12_readMethod 64 = .ok (.iconst 1, 1) := by decide +kernel
theorem dX12_readMethod_65 : decode cX12_readMethod 65 = .ok (.invokevirtual 512, 3) := by decide +kernel
theorem dX12_readMethod_68 : decode cX12_readMethod 68 = .ok (.aload_n 0, 1) := by decide +kernel
theorem dX12_readMethod_69 : decode cX12_readMethod 69 = .ok (.bipush 41, 2) := by decide +kernel
theorem dX12_readMethod_71 : decode cX12_readMethod 71 = .ok (.invokevirtual 385, 3) := by decide +kernel
theorem dX12_readMethod_74 : decode cX12_readMethod 74 = .ok (.ifCond .eq 77, 3) := by decide +kernel
theorem dX12_readMethod_77 : decode cX12_readMethod 77 = .ok (.iconst 0, 1) := by decide +kernel
theorem dX12_readMethod_78 : decode cX12_readMethod 78 = .ok (.istore 5, 2) := by decide +kernel
theorem dX12_readMethod_80 : decode cX12_readMethod 80 = .ok (.iload 5, 2) := by decide +kernel
theorem dX12_readMethod_82 : decode cX12_readMethod 82 = .ok (.aload_n 0, 1) := by decide +kernel
theorem dX12_readMethod_83 : decode cX12_readMethod 83 = .ok (.getfield 51, 3) := by decide +kernel
theorem dX12_readMethod_86 : decode cX12_readMethod 86 = .ok (.iload_n 1, 1) := by decide +kernel
theorem dX12_readMethod_87 : decode cX12_readMethod 87 = .ok (.iaload, 1) := by decide +kernel
theorem dX12_readMethod_88 : decode cX12_readMethod 88 = .ok (.if_icmp .ge 63, 3) := by decide +kernel
theorem dX12_readMethod_91 : decode cX12_readMethod 91 = .ok (.aload_n 0, 1) := by decide +kernel
theorem dX12_readMethod_92 : decode cX12_readMethod 92 = .ok (.getfield 54, 3) := by decide +kernel
theorem dX12_readMethod_95 : decode cX12_readMethod 95 = .ok (.bipush 12, 2) := by decide +kernel
theorem dX12_readMethod_97 : decode cX12_readMethod 97 = .ok (.iload_n 1, 1) := by decide +kernel
theorem dX12_readMethod_98 : decode cX12_readMethod 98 = .ok (.imul, 1) := by decide +kernel
theorem dX12_readMethod_99 : decode cX12_readMethod 99 = .ok (.iload 5, 2) := by decide +kernel
theorem dX12_readMethod_101 : decode cX12_readMethod 101 = .ok (.iadd, 1) := by decide +kernel
theorem dX12_readMethod_102 : decode cX12_readMethod 102 = .ok (.iaload, 1) := by decide +kernel
theorem dX12_readMethod_103 : decode cX12_readMethod 103 = .ok (.istore 6, 2) := by decide +kernel
theorem dX12_readMethod_105 : decode cX12_readMethod 105 = .ok (.aload_n 0, 1) := by decide +kernel
theorem dX12_readMethod_106 : decode cX12_readMethod 106 = .ok (.getfield 84, 3) := by decide +kernel
theorem dX12_readMethod_109 : decode cX12_readMethod 109 = .ok (.iload 6, 2) := by decide +kernel
theorem dX12_readMethod_111 : decode cX12_readMethod 111 = .ok (.laload, 1) := by decide +kernel
theorem dX12_readMethod_112 : decode cX12_readMethod 112 = .ok (.aload_n 0, 1) := by decide +kernel
theorem dX12_readMethod_113 : decode cX12_readMethod 113 = .ok (.getfield 84, 3) := by decide +kernel
theorem dX12_readMethod_116 : decode cX12_readMethod 116 = .ok (.iload_n 3, 1) := by decide +kernel
theorem dX12_readMethod_117 : decode cX12_readMethod 117 = .ok (.laload, 1) := by decide +kernel
theorem dX12_readMethod_118 : decode cX12_readMethod 118 = .ok (.lcmp, 1) := by decide +kernel
theorem dX12_readMethod_119 : decode cX12_readMethod 119 = .ok (.ifCond .ne 26, 3) := by decide +kernel
theorem dX12_readMethod_122 : decode cX12_readMethod 122 = .ok (.aload_n 0, 1) := by decide +kernel
theorem dX12_readMethod_123 : decode cX12_readMethod 123 = .ok (.getfield 72, 3) := by decide +kernel
theorem dX12_readMethod_126 : decode cX12_readMethod 126 = .ok (.iload 6, 2) := by decide +kernel
theorem dX12_readMethod_128 : decode cX12_readMethod 128 = .ok (.iaload, 1) := by decide +kernel
theorem dX12_readMethod_129 : decode cX12_readMethod 129 = .ok (.aload_n 0, 1) := by decide +kernel
theorem dX12_readMethod_130 : decode cX12_readMethod 130 = .ok (.getfield 72, 3) := by decide +kernel
theorem dX12_readMethod_133 : decode cX12_readMethod 133 = .ok (.iload_n 3, 1) := by decide +kernel
theorem dX12_readMethod_134 : decode cX12_readMethod 134 = .ok (.iaload, 1) := by decide +kernel
theorem dX12_readMethod_135 : decode cX12_readMethod 135 = .ok (.if_icmp .ne 10, 3) := by decide +kernel
theorem dX12_readMethod_138 : decode cX12_readMethod 138 = .ok (.aload_n 0, 1) := by decide +kernel
theorem dX12_readMethod_139 : decode cX12_readMethod 139 = .ok (.iconst 2, 1) := by decide +kernel
theorem dX12_readMethod_140 : decode cX12_readMethod 140 = .ok (.iload_n 2, 1) := by decide +kernel
theorem dX12_readMethod_141 : decode cX12_readMethod 141 = .ok (.invokevirtual 298, 3) := by decide +kernel
theorem dX12_readMethod_144 : decode cX12_readMethod 144 = .ok (.return_, 1) := by decide +kernel
theorem dX12_readMethod_145 : decode cX12_readMethod 145 = .ok (.iinc 5 1, 3) := by decide +kernel
theorem dX12_readMethod_148 : decode cX12_readMethod 148 = .ok (.goto (-68), 3) := by decide +kernel
theorem dX12_readMethod_151 : decode cX12_readMethod 151 = .ok (.aload_n 0, 1) := by decide +kernel
theorem dX12_readMethod_152 : decode cX12_readMethod 152 = .ok (.bipush 41, 2) := by decide +kernel
theorem dX12_readMethod_154 : decode cX12_readMethod 154 = .ok (.invokevirtual 479, 3) := by decide +kernel
theorem dX12_readMethod_157 : decode cX12_readMethod 157 = .ok (.aload_n 0, 1) := by decide +kernel
theorem dX12_readMethod_158 : decode cX12_readMethod 158 = .ok (.getfield 54, 3) := by decide +kernel
theorem dX12_readMethod_161 : decode cX12_readMethod 161 = .ok (.bipush 12, 2) := by decide +kernel
theorem dX12_readMethod_163 : decode cX12_readMethod 163 = .ok (.iload_n 1, 1) := by decide +kernel
theorem dX12_readMethod_164 : decode cX12_readMethod 164 = .ok (.imul, 1) := by decide +kernel
theorem dX12_readMethod_165 : decode cX12_readMethod 165 = .ok (.aload_n 0, 1) := by decide +kernel
theorem dX12_readMethod_166 : decode cX12_readMethod 166 = .ok (.getfield 51, 3) := by decide +kernel
theorem dX12_readMethod_169 : decode cX12_readMethod 169 = .ok (.iload_n 1, 1) := by decide +kernel
theorem dX12_readMethod_170 : decode cX12_readMethod 170 = .ok (.iaload, 1) := by decide +kernel
theorem dX12_readMethod_171 : decode cX12_readMethod 171 = .ok (.iadd, 1) := by decide +kernel
theorem dX12_readMethod_172 : decode cX12_readMethod 172 = .ok (.iload_n 3, 1) := by decide +kernel
theorem dX12_readMethod_173 : decode cX12_readMethod 173 = .ok (.iastore, 1) := by decide +kernel
theorem dX12_readMethod_174 : decode cX12_readMethod 174 = .ok (.aload_n 0, 1) := by decide +kernel
theorem dX12_readMethod_175 : decode cX12_readMethod 175 = .ok (.getfield 51, 3) := by decide +kernel
theorem dX12_readMethod_178 : decode cX12_readMethod 178 = .ok (.iload_n 1, 1) := by decide +kernel
theorem dX12_readMethod_179 : decode cX12_readMethod 179 = .ok (.dup2, 1) := by decide +kernel
theorem dX12_readMethod_180 : decode cX12_readMethod 180 = .ok (.iaload, 1) := by decide +kernel
theorem dX12_readMethod_181 : decode cX12_readMethod 181 = .ok (.iconst 1, 1) := by decide +kernel
theorem dX12_readMethod_182 : decode cX12_readMethod 182 = .ok (.iadd, 1) := by decide +kernel
theorem dX12_readMethod_183 : decode cX12_readMethod 183 = .ok (.iastore, 1) := by decide +kernel
theorem dX12_readMethod_184 : decode cX12_readMethod 184 = .ok (.aload_n 0, 1) := by decide +kernel
theorem dX12_readMethod_185 : decode cX12_readMethod 185 = .ok (.bipush 61, 2) := by decide +kernel
theorem dX12_readMethod_187 : decode cX12_readMethod 187 = .ok (.invokevirtual 479, 3) := by decide +kernel
theorem dX12_readMethod_190 : decode cX12_readMethod 190 = .ok (.aload_n 0, 1) := by decide +kernel
theorem dX12_readMethod_191 : decode cX12_readMethod 191 = .ok (.iload_n 3, 1) := by decide +kernel
theorem dX12_readMethod_192 : decode cX12_readMethod 192 = .ok (.putfield 421, 3) := by decide +kernel
theorem dX12_readMethod_195 : decode cX12_readMethod 195 = .ok (.aload_n 0, 1) := by decide +kernel
theorem dX12_readMethod_196 : decode cX12_readMethod 196 = .ok (.invokevirtual 515, 3) := by decide +kernel
theorem dX12_readMethod_199 : decode cX12_readMethod 199 = .ok (.istore 5, 2) := by decide +kernel
theorem dX12_readMethod_201 : decode cX12_readMethod 201 = .ok (.aload_n 0, 1) := by decide +kernel
theorem dX12_readMethod_202 : decode cX12_readMethod 202 = .ok (.getfield 78, 3) := by decide +kernel
theorem dX12_readMethod_205 : decode cX12_readMethod 205 = .ok (.iload_n 3, 1) := by decide +kernel
theorem dX12_readMethod_206 : decode cX12_readMethod 206 = .ok (.iload 5, 2) := by decide +kernel
theorem dX12_readMethod_208 : decode cX12_readMethod 208 = .ok (.iastore, 1) := by decide +kernel
theorem dX12_readMethod_209 : decode cX12_readMethod 209 = .ok (.aload_n 0, 1) := by decide +kernel
theorem dX12_readMethod_210 : decode cX12_readMethod 210 = .ok (.iconst (-1), 1) := by decide +kernel
theorem dX12_readMethod_211 : decode cX12_readMethod 211 = .ok (.putfield 421, 3) := by decide +kernel
theorem dX12_readMethod_214 : decode cX12_readMethod 214 = .ok (.aload_n 0, 1) := by decide +kernel
theorem dX12_readMethod_215 : decode cX12_readMethod 215 = .ok (.iload 4, 2) := by decide +kernel
theorem dX12_readMethod_217 : decode cX12_readMethod 217 = .ok (.putfield 446, 3) := by decide +kernel
theorem dX12_readMethod_220 : decode cX12_readMethod 220 = .ok (.aload_n 0, 1) := by decide +kernel
theorem dX12_readMethod_221 : decode cX12_readMethod 221 = .ok (.bipush 59, 2) := by decide +kernel
theorem dX12_readMethod_223 : decode cX12_readMethod 223 = .ok (.invokevirtual 479, 3) := by decide +kernel
theorem dX12_readMethod_226 : decode cX12_readMethod 226 = .ok (.return_, 1) := by decide +kernel
theorem dX12_parameters_0 : decode cX12_parameters 0 = .ok (.aload_n 0, 1) := by decide +kernel
theorem dX12_parameters_1 : decode cX12_parameters 1 = .ok (.bipush 40, 2) := by decide +kernel
theorem dX12_parameters_3 : decode cX12_parameters 3 = .ok (.invokevirtual 479, 3) := by decide +kernel
theorem dX12_parameters_6 : decode cX12_parameters 6 = .ok (.aload_n 0, 1) := by decide +kernel
theorem dX12_parameters_7 : decode cX12_parameters 7 = .ok (.getfield 446, 3) := by decide +kernel
theorem dX12_parameters_10 : decode cX12_parameters 10 = .ok (.istore_n 3, 1) := by decide +kernel
theorem dX12_parameters_11 : decode cX12_parameters 11 = .ok (.aload_n 0, 1) := by decide +kernel
theorem dX12_parameters_12 : decode cX12_parameters 12 = .ok (.invokevirtual 332, 3) := by decide +kernel
theorem dX12_parameters_15 : decode cX12_parameters 15 = .ok (.ifCond .eq 12, 3) := by decide +kernel
theorem dX12_parameters_18 : decode cX12_parameters 18 = .ok (.aload_n 0, 1) := by decide +kernel
theorem dX12_parameters_19 : decode cX12_parameters 19 = .ok (.bipush 41, 2) := by decide +kernel
theorem dX12_parameters_21 : decode cX12_parameters 21 = .ok (.invokevirtual 385, 3) := by decide +kernel
theorem dX12_parameters_24 : decode cX12_parameters 24 = .ok (.ifCond .eq 4, 3) := by decide +kernel
theorem dX12_parameters_27 : decode cX12_parameters 27 = .ok (.return_, 1) := by decide +kernel
theorem dX12_parameters_28 : decode cX12_parameters 28 = .ok (.iconst 1, 1) := by decide +kernel
theorem dX12_parameters_29 : decode cX12_parameters 29 = .ok (.istore 4, 2) := by decide +kernel
theorem dX12_parameters_31 : decode cX12_parameters 31 = .ok (.iload 4, 2) := by decide +kernel
theorem dX12_parameters_33 : decode cX12_parameters 33 = .ok (.ifCond .eq 150, 3) := by decide +kernel
theorem dX12_parameters_36 : decode cX12_parameters 36 = .ok (.aload_n 0, 1) := by decide +kernel
theorem dX12_parameters_37 : decode cX12_parameters 37 = .ok (.invokevirtual 400, 3) := by decide +kernel
theorem dX12_parameters_40 : decode cX12_parameters 40 = .ok (.ifCond .eq 143, 3) := by decide +kernel
theorem dX12_parameters_43 : decode cX12_parameters 43 = .ok (.aload_n 0, 1) := by decide +kernel
theorem dX12_parameters_44 : decode cX12_parameters 44 = .ok (.getfield 72, 3) := by decide +kernel
theorem dX12_parameters_47 : decode cX12_parameters 47 = .ok (.iload_n 1, 1) := by decide +kernel
theorem dX12_parameters_48 : decode cX12_parameters 48 = .ok (.iaload, 1) := by decide +kernel
theorem dX12_parameters_49 : decode cX12_parameters 49 = .ok (.iconst 3, 1) := by decide +kernel
theorem dX12_parameters_50 : decode cX12_parameters 50 = .ok (.if_icmp .eq 12, 3) := by decide +kernel
theorem dX12_parameters_53 : decode cX12_parameters 53 = .ok (.aload_n 0, 1) := by decide +kernel
theorem dX12_parameters_54 : decode cX12_parameters 54 = .ok (.getfield 446, 3) := by decide +kernel
theorem dX12_parameters_57 : decode cX12_parameters 57 = .ok (.bipush 12, 2) := by decide +kernel
theorem dX12_parameters_59 : decode cX12_parameters 59 = .ok (.if_icmp .ne 9, 3) := by decide +kernel
theorem dX12_parameters_62 : decode cX12_parameters 62 = .ok (.aload_n 0, 1) := by decide +kernel
theorem dX12_parameters_63 : decode cX12_parameters 63 = .ok (.iconst 4, 1) := by decide +kernel
theorem dX12_parameters_64 : decode cX12_parameters 64 = .ok (.invokevirtual 362, 3) := by decide +kernel
theorem dX12_parameters_67 : decode cX12_parameters 67 = .ok (.return_, 1) := by decide +kernel
theorem dX12_parameters_68 : decode cX12_parameters 68 = .ok (.iload_n 3, 1) := by decide +kernel
theorem dX12_parameters_69 : decode cX12_parameters 69 = .ok (.istore 5, 2) := by decide +kernel
theorem dX12_parameters_71 : decode cX12_parameters 71 = .ok (.iload 5, 2) := by decide +kernel
theorem dX12_parameters_73 : decode cX12_parameters 73 = .ok (.aload_n 0, 1) := by decide +kernel
theorem dX12_parameters_74 : decode cX12_parameters 74 = .ok (.getfield 446, 3) := by decide +kernel
theorem dX12_parameters_77 : decode cX12_parameters 77 = .ok (.if_icmp .ge 35, 3) := by decide +kernel
theorem dX12_parameters_80 : decode cX12_parameters 80 = .ok (.aload_n 0, 1) := by decide +kernel
theorem dX12_parameters_81 : decode cX12_parameters 81 = .ok (.getfield 106, 3) := by decide +kernel
theorem dX12_parameters_84 : decode cX12_parameters 84 = .ok (.aload_n 0, 1) := by decide +kernel
theorem dX12_parameters_85 : decode cX12_parameters 85 = .ok (.getfield 118, 3) := by decide +kernel
theorem dX12_parameters_88 : decode cX12_parameters 88 = .ok (.iload 5, 2) := by decide +kernel
theorem dX12_parameters_90 : decode cX12_parameters 90 = .ok (.iaload, 1) := by decide +kernel
theorem dX12_parameters_91 : decode cX12_parameters 91 = .ok (.laload, 1) := by decide +kernel
theorem dX12_parameters_92 : decode cX12_parameters 92 = .ok (.aload_n 0, 1) := by decide +kernel
theorem dX12_parameters_93 : decode cX12_parameters 93 = .ok (.getfield 358, 3) := by decide +kernel
theorem dX12_parameters_96 : decode cX12_parameters 96 = .ok (.lcmp, 1) := by decide +kernel
theorem dX12_parameters_97 : decode cX12_parameters 97 = .ok (.ifCond .ne 9, 3) := by decide +kernel
theorem dX12_parameters_100 : decode cX12_parameters 100 = .ok (.aload_n 0, 1) := by decide +kernel
theorem dX12_parameters_101 : decode cX12_parameters 101 = .ok (.iconst 2, 1) := by decide +kernel
theorem dX12_parameters_102 : decode cX12_parameters 102 = .ok (.invokevirtual 362, 3) := by decide +kernel
theorem dX12_parameters_105 : decode cX12_parameters 105 = .ok (.return_, 1) := by decide +kernel
theorem dX12_parameters_106 : decode cX12_parameters 106 = .ok (.iinc 5 1, 3) := by decide +kernel
theorem dX12_parameters_109 : decode cX12_parameters 109 = .ok (.goto (-38), 3) := by decide +kernel
theorem dX12_parameters_112 : decode cX12_parameters 112 = .ok (.aload_n 0, 1) := by decide +kernel
theorem dX12_parameters_113 : decode cX12_parameters 113 = .ok (.getfield 118, 3) := by decide +kernel
theorem dX12_parameters_116 : decode cX12_parameters 116 = .ok (.aload_n 0, 1) := by decide +kernel
theorem dX12_parameters_117 : decode cX12_parameters 117 = .ok (.getfield 446, 3) := by decide +kernel
theorem dX12_parameters_120 : decode cX12_parameters 120 = .ok (.aload_n 0, 1) := by decide +kernel
theorem dX12_parameters_121 : decode cX12_parameters 121 = .ok (.iload_n 1, 1) := by decide +kernel
theorem dX12_parameters_122 : decode cX12_parameters 122 = .ok (.aload_n 0, 1) := by decide +kernel
theorem dX12_parameters_123 : decode cX12_parameters 123 = .ok (.getfield 358, 3) := by decide +kernel
theorem dX12_parameters_126 : decode cX12_parameters 126 = .ok (.iload_n 2, 1) := by decide +kernel
theorem dX12_parameters_127 : decode cX12_parameters 127 = .ok (.aload_n 0, 1) := by decide +kernel
theorem dX12_parameters_128 : decode cX12_parameters 128 = .ok (.getfield 72, 3) := by decide +kernel
theorem dX12_parameters_131 : decode cX12_parameters 131 = .ok (.iload_n 1, 1) := by decide +kernel
theorem dX12_parameters_132 : decode cX12_parameters 132 = .ok (.iaload, 1) := by decide +kernel
theorem dX12_parameters_133 : decode cX12_parameters 133 = .ok (.iadd, 1) := by decide +kernel
theorem dX12_parameters_134 : decode cX12_parameters 134 = .ok (.iconst 0, 1) := by decide +kernel
theorem dX12_parameters_135 : decode cX12_parameters 135 = .ok (.invokevirtual 508, 3) := by decide +kernel
theorem dX12_parameters_138 : decode cX12_parameters 138 = .ok (.iastore, 1) := by decide +kernel
theorem dX12_parameters_139 : decode cX12_parameters 139 = .ok (.aload_n 0, 1) := by decide +kernel
theorem dX12_parameters_140 : decode cX12_parameters 140 = .ok (.dup, 1) := by decide +kernel
theorem dX12_parameters_141 : decode cX12_parameters 141 = .ok (.getfield 446, 3) := by decide +kernel
theorem dX12_parameters_144 : decode cX12_parameters 144 = .ok (.iconst 1, 1) := by decide +kernel
theorem dX12_parameters_145 : decode cX12_parameters 145 = .ok (.iadd, 1) := by decide +kernel
theorem dX12_parameters_146 : decode cX12_parameters 146 = .ok (.putfield 446, 3) := by decide +kernel
theorem dX12_parameters_149 : decode cX12_parameters 149 = .ok (.aload_n 0, 1) := by decide +kernel
theorem dX12_parameters_150 : decode cX12_parameters 150 = .ok (.getfield 72, 3) := by decide +kernel
theorem dX12_parameters_153 : decode cX12_parameters 153 = .ok (.iload_n 1, 1) := by decide +kernel
theorem dX12_parameters_154 : decode cX12_parameters 154 = .ok (.dup2, 1) := by decide +kernel
theorem dX12_parameters_155 : decode cX12_parameters 155 = .ok (.iaload, 1) := by decide +kernel
theorem dX12_parameters_156 : decode cX12_parameters 156 = .ok (.iconst 1, 1) := by decide +kernel
theorem dX12_parameters_157 : decode cX12_parameters 157 = .ok (.iadd, 1) := by decide +kernel
theorem dX12_parameters_158 : decode cX12_parameters 158 = .ok (.iastore, 1) := by decide +kernel
theorem dX12_parameters_159 : decode cX12_parameters 159 = .ok (.aload_n 0, 1) := by decide +kernel
theorem dX12_parameters_160 : decode cX12_parameters 160 = .ok (.invokevirtual 388, 3) := by decide +kernel
theorem dX12_parameters_163 : decode cX12_parameters 163 = .ok (.aload_n 0, 1) := by decide +kernel
theorem dX12_parameters_164 : decode cX12_parameters 164 = .ok (.bipush 44, 2) := by decide +kernel
theorem dX12_parameters_166 : decode cX12_parameters 166 = .ok (.invokevirtual 385, 3) := by decide +kernel
theorem dX12_parameters_169 : decode cX12_parameters 169 = .ok (.istore 4, 2) := by decide +kernel
theorem dX12_parameters_171 : decode cX12_parameters 171 = .ok (.iload 4, 2) := by decide +kernel
theorem dX12_parameters_173 : decode cX12_parameters 173 = .ok (.ifCond .eq (-142), 3) := by decide +kernel
theorem dX12_parameters_176 : decode cX12_parameters 176 = .ok (.aload_n 0, 1) := by decide +kernel
theorem dX12_parameters_177 : decode cX12_parameters 177 = .ok (.invokevirtual 388, 3) := by decide +kernel
theorem dX12_parameters_180 : decode cX12_parameters 180 = .ok (.goto (-149), 3) := by decide +kernel
theorem dX12_parameters_183 : decode cX12_parameters 183 = .ok (.return_, 1) := by decide +kernel
theorem dX12_beginsPrefix_0 : decode cX12_beginsPrefix 0 = .ok (.aload_n 0, 1) := by decide +kernel
theorem dX12_beginsPrefix_1 : decode cX12_beginsPrefix 1 = .ok (.getfield 292, 3) := by decide +kernel
theorem dX12_beginsPrefix_4 : decode cX12_beginsPrefix 4 = .ok (.iconst 1, 1) := by decide +kernel
theorem dX12_beginsPrefix_5 : decode cX12_beginsPrefix 5 = .ok (.if_icmp .eq 11, 3) := by decide +kernel
theorem dX12_beginsPrefix_8 : decode cX12_beginsPrefix 8 = .ok (.aload_n 0, 1) := by decide +kernel
theorem dX12_beginsPrefix_9 : decode cX12_beginsPrefix 9 = .ok (.getfield 292, 3) := by decide +kernel
theorem dX12_beginsPrefix_12 : decode cX12_beginsPrefix 12 = .ok (.iconst 3, 1) := by decide +kernel
theorem dX12_beginsPrefix_13 : decode cX12_beginsPrefix 13 = .ok (.if_icmp .ne 5, 3) := by decide +kernel
theorem dX12_beginsPrefix_16 : decode cX12_beginsPrefix 16 = .ok (.iconst 1, 1) := by decide +kernel
theorem dX12_beginsPrefix_17 : decode cX12_beginsPrefix 17 = .ok (.ireturn, 1) := by decide +kernel
theorem dX12_beginsPrefix_18 : decode cX12_beginsPrefix 18 = .ok (.aload_n 0, 1) := by decide +kernel
theorem dX12_beginsPrefix_19 : decode cX12_beginsPrefix 19 = .ok (.getfield 292, 3) := by decide +kernel
theorem dX12_beginsPrefix_22 : decode cX12_beginsPrefix 22 = .ok (.iconst 5, 1) := by decide +kernel
theorem dX12_beginsPrefix_23 : decode cX12_beginsPrefix 23 = .ok (.if_icmp .ne 27, 3) := by decide +kernel
theorem dX12_beginsPrefix_26 : decode cX12_beginsPrefix 26 = .ok (.aload_n 0, 1) := by decide +kernel
theorem dX12_beginsPrefix_27 : decode cX12_beginsPrefix 27 = .ok (.getfield 369, 3) := by decide +kernel
theorem dX12_beginsPrefix_30 : decode cX12_beginsPrefix 30 = .ok (.bipush 123, 2) := by decide +kernel
theorem dX12_beginsPrefix_32 : decode cX12_beginsPrefix 32 = .ok (.if_icmp .eq 12, 3) := by decide +kernel
theorem dX12_beginsPrefix_35 : decode cX12_beginsPrefix 35 = .ok (.aload_n 0, 1) := by decide +kernel
theorem dX12_beginsPrefix_36 : decode cX12_beginsPrefix 36 = .ok (.getfield 369, 3) := by decide +kernel
theorem dX12_beginsPrefix_39 : decode cX12_beginsPrefix 39 = .ok (.bipush 40, 2) := by decide +kernel
theorem dX12_beginsPrefix_41 : decode cX12_beginsPrefix 41 = .ok (.if_icmp .ne 7, 3) := by decide +kernel
theorem dX12_beginsPrefix_44 : decode cX12_beginsPrefix 44 = .ok (.iconst 1, 1) := by decide +kernel
theorem dX12_beginsPrefix_45 : decode cX12_beginsPrefix 45 = .ok (.goto 4, 3) := by decide +kernel
theorem dX12_beginsPrefix_48 : decode cX12_beginsPrefix 48 = .ok (.iconst 0, 1) := by decide +kernel
theorem dX12_beginsPrefix_49 : decode cX12_beginsPrefix 49 = .ok (.ireturn, 1) := by decide +kernel
theorem dX12_beginsPrefix_50 : decode cX12_beginsPrefix 50 = .ok (.aload_n 0, 1) := by decide +kernel
theorem dX12_beginsPrefix_51 : decode cX12_beginsPrefix 51 = .ok (.getfield 292, 3) := by decide +kernel
theorem dX12_beginsPrefix_54 : decode cX12_beginsPrefix 54 = .ok (.iconst 2, 1) := by decide +kernel
theorem dX12_beginsPrefix_55 : decode cX12_beginsPrefix 55 = .ok (.if_icmp .ne 124, 3) := by decide +kernel
theorem dX12_beginsPrefix_58 : decode cX12_beginsPrefix 58 = .ok (.aload_n 0, 1) := by decide +kernel
theorem dX12_beginsPrefix_59 : decode cX12_beginsPrefix 59 = .ok (.getfield 369, 3) := by decide +kernel
theorem dX12_beginsPrefix_62 : decode cX12_beginsPrefix 62 = .ok (.bipush 10, 2) := by decide +kernel
theorem dX12_beginsPrefix_64 : decode cX12_beginsPrefix 64 = .ok (.if_icmp .eq 111, 3) := by decide +kernel
theorem dX12_beginsPrefix_67 : decode cX12_beginsPrefix 67 = .ok (.aload_n 0, 1) := by decide +kernel
theorem dX12_beginsPrefix_68 : decode cX12_beginsPrefix 68 = .ok (.getfield 369, 3) := by decide +kernel
theorem dX12_beginsPrefix_71 : decode cX12_beginsPrefix 71 = .ok (.bipush 11, 2) := by decide +kernel
theorem dX12_beginsPrefix_73 : decode cX12_beginsPrefix 73 = .ok (.if_icmp .eq 102, 3) := by decide +kernel
theorem dX12_beginsPrefix_76 : decode cX12_beginsPrefix 76 = .ok (.aload_n 0, 1) := by decide +kernel
theorem dX12_beginsPrefix_77 : decode cX12_beginsPrefix 77 = .ok (.getfield 369, 3) := by decide +kernel
theorem dX12_beginsPrefix_80 : decode cX12_beginsPrefix 80 = .ok (.bipush 12, 2) := by decide +kernel
theorem dX12_beginsPrefix_82 : decode cX12_beginsPrefix 82 = .ok (.if_icmp .eq 93, 3) := by decide +kernel
theorem dX12_beginsPrefix_85 : decode cX12_beginsPrefix 85 = .ok (.aload_n 0, 1) := by decide +kernel
theorem dX12_beginsPrefix_86 : decode cX12_beginsPrefix 86 = .ok (.getfield 369, 3) := by decide +kernel
theorem dX12_beginsPrefix_89 : decode cX12_beginsPrefix 89 = .ok (.bipush 13, 2) := by decide +kernel
theorem dX12_beginsPrefix_91 : decode cX12_beginsPrefix 91 = .ok (.if_icmp .eq 84, 3) := by decide +kernel
theorem dX12_beginsPrefix_94 : decode cX12_beginsPrefix 94 = .ok (.aload_n 0, 1) := by decide +kernel
theorem dX12_beginsPrefix_95 : decode cX12_beginsPrefix 95 = .ok (.getfield 369, 3) := by decide +kernel
theorem dX12_beginsPrefix_98 : decode cX12_beginsPrefix 98 = .ok (.bipush 14, 2) := by decide +kernel
theorem dX12_beginsPrefix_100 : decode cX12_beginsPrefix 100 = .ok (.if_icmp .eq 75, 3) := by decide +kernel
theorem dX12_beginsPrefix_103 : decode cX12_beginsPrefix 103 = .ok (.aload_n 0, 1) := by decide +kernel
theorem dX12_beginsPrefix_104 : decode cX12_beginsPrefix 104 = .ok (.getfield 369, 3) := by decide +kernel
theorem dX12_beginsPrefix_107 : decode cX12_beginsPrefix 107 = .ok (.bipush 15, 2) := by decide +kernel
theorem dX12_beginsPrefix_109 : decode cX12_beginsPrefix 109 = .ok (.if_icmp .eq 66, 3) := by decide +kernel
theorem dX12_beginsPrefix_112 : decode cX12_beginsPrefix 112 = .ok (.aload_n 0, 1) := by decide +kernel
theorem dX12_beginsPrefix_113 : decode cX12_beginsPrefix 113 = .ok (.getfield 369, 3) := by decide +kernel
theorem dX12_beginsPrefix_116 : decode cX12_beginsPrefix 116 = .ok (.bipush 16, 2) := by decide +kernel
theorem dX12_beginsPrefix_118 : decode cX12_beginsPrefix 118 = .ok (.if_icmp .eq 57, 3) := by decide +kernel
theorem dX12_beginsPrefix_121 : decode cX12_beginsPrefix 121 = .ok (.aload_n 0, 1) := by decide +kernel
theorem dX12_beginsPrefix_122 : decode cX12_beginsPrefix 122 = .ok (.getfield 369, 3) := by decide +kernel
theorem dX12_beginsPrefix_125 : decode cX12_beginsPrefix 125 = .ok (.bipush 17, 2) := by decide +kernel
theorem dX12_beginsPrefix_127 : decode cX12_beginsPrefix 127 = .ok (.if_icmp .eq 48, 3) := by decide +kernel
theorem dX12_beginsPrefix_130 : decode cX12_beginsPrefix 130 = .ok (.aload_n 0, 1) := by decide +kernel
theorem dX12_beginsPrefix_131 : decode cX12_beginsPrefix 131 = .ok (.getfield 369, 3) := by decide +kernel
theorem dX12_beginsPrefix_134 : decode cX12_beginsPrefix 134 = .ok (.bipush 18, 2) := by decide +kernel
theorem dX12_beginsPrefix_136 : decode cX12_beginsPrefix 136 = .ok (.if_icmp .eq 39, 3) := by decide +kernel
theorem dX12_beginsPrefix_139 : decode cX12_beginsPrefix 139 = .ok (.aload_n 0, 1) := by decide +kernel
theorem dX12_beginsPrefix_140 : decode cX12_beginsPrefix 140 = .ok (.getfield 369, 3) := by decide +kernel
theorem dX12_beginsPrefix_143 : decode cX12_beginsPrefix 143 = .ok (.bipush 19, 2) := by decide +kernel
theorem dX12_beginsPrefix_145 : decode cX12_beginsPrefix 145 = .ok (.if_icmp .eq 30, 3) := by decide +kernel
theorem dX12_beginsPrefix_148 : decode cX12_beginsPrefix 148 = .ok (.aload_n 0, 1) := by decide +kernel
theorem dX12_beginsPrefix_149 : decode cX12_beginsPrefix 149 = .ok (.getfield 369, 3) := by decide +kernel
theorem dX12_beginsPrefix_152 : decode cX12_beginsPrefix 152 = .ok (.bipush 20, 2) := by decide +kernel
theorem dX12_beginsPrefix_154 : decode cX12_beginsPrefix 154 = .ok (.if_icmp .eq 21, 3) := by decide +kernel
theorem dX12_beginsPrefix_157 : decode cX12_beginsPrefix 157 = .ok (.aload_n 0, 1) := by decide +kernel
theorem dX12_beginsPrefix_158 : decode cX12_beginsPrefix 158 = .ok (.getfield 369, 3) := by decide +kernel
theorem dX12_beginsPrefix_161 : decode cX12_beginsPrefix 161 = .ok (.bipush 21, 2) := by decide +kernel
theorem dX12_beginsPrefix_163 : decode cX12_beginsPrefix 163 = .ok (.if_icmp .eq 12, 3) := by decide +kernel
theorem dX12_beginsPrefix_166 : decode cX12_beginsPrefix 166 = .ok (.aload_n 0, 1) := by decide +kernel
theorem dX12_beginsPrefix_167 : decode cX12_beginsPrefix 167 = .ok (.getfield 369, 3) := by decide +kernel
theorem dX12_beginsPrefix_170 : decode cX12_beginsPrefix 170 = .ok (.bipush 22, 2) := by decide +kernel
theorem dX12_beginsPrefix_172 : decode cX12_beginsPrefix 172 = .ok (.if_icmp .ne 7, 3) := by decide +kernel
theorem dX12_beginsPrefix_175 : decode cX12_beginsPrefix 175 = .ok (.iconst 1, 1) := by decide +kernel
theorem dX12_beginsPrefix_176 : decode cX12_beginsPrefix 176 = .ok (.goto 4, 3) := by decide +kernel
theorem dX12_beginsPrefix_179 : decode cX12_beginsPrefix 179 = .ok (.iconst 0, 1) := by decide +kernel
theorem dX12_beginsPrefix_180 : decode cX12_beginsPrefix 180 = .ok (.ireturn, 1) := by decide +kernel
theorem dX12_beginsE_0 : decode cX12_beginsE 0 = .ok (.aload_n 0, 1) := by decide +kernel
theorem dX12_beginsE_1 : decode cX12_beginsE 1 = .ok (.invokevirtual 518, 3) := by decide +kernel
theorem dX12_beginsE_4 : decode cX12_beginsE 4 = .ok (.ifCond .ne 36, 3) := by decide +kernel
theorem dX12_beginsE_7 : decode cX12_beginsE 7 = .ok (.aload_n 0, 1) := by decide +kernel
theorem dX12_beginsE_8 : decode cX12_beginsE 8 = .ok (.getfield 292, 3) := by decide +kernel
theorem dX12_beginsE_11 : decode cX12_beginsE 11 = .ok (.iconst 2, 1) := by decide +kernel
theorem dX12_beginsE_12 : decode cX12_beginsE 12 = .ok (.if_icmp .ne 32, 3) := by decide +kernel
theorem dX12_beginsE_15 : decode cX12_beginsE 15 = .ok (.aload_n 0, 1) := by decide +kernel
theorem dX12_beginsE_16 : decode cX12_beginsE 16 = .ok (.getfield 369, 3) := by decide +kernel
theorem dX12_beginsE_19 : decode cX12_beginsE 19 = .ok (.iconst 3, 1) := by decide +kernel
theorem dX12_beginsE_20 : decode cX12_beginsE 20 = .ok (.if_icmp .eq 20, 3) := by decide +kernel
theorem dX12_beginsE_23 : decode cX12_beginsE 23 = .ok (.aload_n 0, 1) := by decide +kernel
theorem dX12_beginsE_24 : decode cX12_beginsE 24 = .ok (.getfield 369, 3) := by decide +kernel
theorem dX12_beginsE_27 : decode cX12_beginsE 27 = .ok (.iconst 5, 1) := by decide +kernel
theorem dX12_beginsE_28 : decode cX12_beginsE 28 = .ok (.if_icmp .eq 12, 3) := by decide +kernel
theorem dX12_beginsE_31 : decode cX12_beginsE 31 = .ok (.aload_n 0, 1) := by decide +kernel
theorem dX12_beginsE_32 : decode cX12_beginsE 32 = .ok (.getfield 369, 3) := by decide +kernel
theorem dX12_beginsE_35 : decode cX12_beginsE 35 = .ok (.bipush 8, 2) := by decide +kernel
theorem dX12_beginsE_37 : decode cX12_beginsE 37 = .ok (.if_icmp .ne 7, 3) := by decide +kernel
theorem dX12_beginsE_40 : decode cX12_beginsE 40 = .ok (.iconst 1, 1) := by decide +kernel
theorem dX12_beginsE_41 : decode cX12_beginsE 41 = .ok (.goto 4, 3) := by decide +kernel
theorem dX12_beginsE_44 : decode cX12_beginsE 44 = .ok (.iconst 0, 1) := by decide +kernel
theorem dX12_beginsE_45 : decode cX12_beginsE 45 = .ok (.ireturn, 1) := by decide +kernel
theorem dX12_deeper_0 : decode cX12_deeper 0 = .ok (.aload_n 0, 1) := by decide +kernel
theorem dX12_deeper_1 : decode cX12_deeper 1 = .ok (.invokevirtual 332, 3) := by decide +kernel
theorem dX12_deeper_4 : decode cX12_deeper 4 = .ok (.ifCond .ne 5, 3) := by decide +kernel
theorem dX12_deeper_7 : decode cX12_deeper 7 = .ok (.iconst 0, 1) := by decide +kernel
theorem dX12_deeper_8 : decode cX12_deeper 8 = .ok (.ireturn, 1) := by decide +kernel
theorem dX12_deeper_9 : decode cX12_deeper 9 = .ok (.iload_n 1, 1) := by decide +kernel
theorem dX12_deeper_10 : decode cX12_deeper 10 = .ok (.ifCond .ne 9, 3) := by decide +kernel
theorem dX12_deeper_13 : decode cX12_deeper 13 = .ok (.aload_n 0, 1) := by decide +kernel
theorem dX12_deeper_14 : decode cX12_deeper 14 = .ok (.invokevirtual 391, 3) := by decide +kernel
theorem dX12_deeper_17 : decode cX12_deeper 17 = .ok (.iconst 0, 1) := by decide +kernel
theorem dX12_deeper_18 : decode cX12_deeper 18 = .ok (.ireturn, 1) := by decide +kernel
theorem dX12_deeper_19 : decode cX12_deeper 19 = .ok (.aload_n 0, 1) := by decide +kernel
theorem dX12_deeper_20 : decode cX12_deeper 20 = .ok (.getfield 458, 3) := by decide +kernel
theorem dX12_deeper_23 : decode cX12_deeper 23 = .ok (.bipush 24, 2) := by decide +kernel
theorem dX12_deeper_25 : decode cX12_deeper 25 = .ok (.if_icmp .ne 10, 3) := by decide +kernel
theorem dX12_deeper_28 : decode cX12_deeper 28 = .ok (.aload_n 0, 1) := by decide +kernel
theorem dX12_deeper_29 : decode cX12_deeper 29 = .ok (.iconst 4, 1) := by decide +kernel
theorem dX12_deeper_30 : decode cX12_deeper 30 = .ok (.invokevirtual 362, 3) := by decide +kernel
theorem dX12_deeper_33 : decode cX12_deeper 33 = .ok (.iconst 0, 1) := by decide +kernel
theorem dX12_deeper_34 : decode cX12_deeper 34 = .ok (.ireturn, 1) := by decide +kernel
theorem dX12_deeper_35 : decode cX12_deeper 35 = .ok (.aload_n 0, 1) := by decide +kernel
theorem dX12_deeper_36 : decode cX12_deeper 36 = .ok (.dup, 1) := by decide +kernel
theorem dX12_deeper_37 : decode cX12_deeper 37 = .ok (.getfield 458, 3) := by decide +kernel
theorem dX12_deeper_40 : decode cX12_deeper 40 = .ok (.iconst 1, 1) := by decide +kernel
theorem dX12_deeper_41 : decode cX12_deeper 41 = .ok (.iadd, 1) := by decide +kernel
theorem dX12_deeper_42 : decode cX12_deeper 42 = .ok (.putfield 458, 3) := by decide +kernel
theorem dX12_deeper_45 : decode cX12_deeper 45 = .ok (.iconst 1, 1) := by decide +kernel
theorem dX12_deeper_46 : decode cX12_deeper 46 = .ok (.ireturn, 1) := by decide +kernel
theorem dX12_e_0 : decode cX12_e 0 = .ok (.aload_n 0, 1) := by decide +kernel
theorem dX12_e_1 : decode cX12_e 1 = .ok (.aload_n 0, 1) := by decide +kernel
theorem dX12_e_2 : decode cX12_e 2 = .ok (.invokevirtual 521, 3) := by decide +kernel
theorem dX12_e_5 : decode cX12_e 5 = .ok (.invokevirtual 524, 3) := by decide +kernel
theorem dX12_e_8 : decode cX12_e 8 = .ok (.ifCond .ne 5, 3) := by decide +kernel
theorem dX12_e_11 : decode cX12_e 11 = .ok (.iconst 0, 1) := by decide +kernel
theorem dX12_e_12 : decode cX12_e 12 = .ok (.ireturn, 1) := by decide +kernel
theorem dX12_e_13 : decode cX12_e 13 = .ok (.aload_n 0, 1) := by decide +kernel
theorem dX12_e_14 : decode cX12_e 14 = .ok (.invokevirtual 528, 3) := by decide +kernel
theorem dX12_e_17 : decode cX12_e 17 = .ok (.istore_n 1, 1) := by decide +kernel
theorem dX12_e_18 : decode cX12_e 18 = .ok (.aload_n 0, 1) := by decide +kernel
theorem dX12_e_19 : decode cX12_e 19 = .ok (.dup, 1) := by decide +kernel
theorem dX12_e_20 : decode cX12_e 20 = .ok (.getfield 458, 3) := by decide +kernel
theorem dX12_e_23 : decode cX12_e 23 = .ok (.iconst 1, 1) := by decide +kernel
theorem dX12_e_24 : decode cX12_e 24 = .ok (.isub, 1) := by decide +kernel
theorem dX12_e_25 : decode cX12_e 25 = .ok (.putfield 458, 3) := by decide +kernel
theorem dX12_e_28 : decode cX12_e 28 = .ok (.iload_n 1, 1) := by decide +kernel
theorem dX12_e_29 : decode cX12_e 29 = .ok (.ireturn, 1) := by decide +kernel
theorem dX12_innerPrefix_0 : decode cX12_innerPrefix 0 = .ok (.aload_n 0, 1) := by decide +kernel
theorem dX12_innerPrefix_1 : decode cX12_innerPrefix 1 = .ok (.aload_n 0, 1) := by decide +kernel
theorem dX12_innerPrefix_2 : decode cX12_innerPrefix 2 = .ok (.invokevirtual 518, 3) := by decide +kernel
theorem dX12_innerPrefix_5 : decode cX12_innerPrefix 5 = .ok (.invokevirtual 524, 3) := by decide +kernel
theorem dX12_innerPrefix_8 : decode cX12_innerPrefix 8 = .ok (.ifCond .ne 5, 3) := by decide +kernel
theorem dX12_innerPrefix_11 : decode cX12_innerPrefix 11 = .ok (.iconst 0, 1) := by decide +kernel
theorem dX12_innerPrefix_12 : decode cX12_innerPrefix 12 = .ok (.ireturn, 1) := by decide +kernel
theorem dX12_innerPrefix_13 : decode cX12_innerPrefix 13 = .ok (.aload_n 0, 1) := by decide +kernel
theorem dX12_innerPrefix_14 : decode cX12_innerPrefix 14 = .ok (.invokevirtual 531, 3) := by decide +kernel
theorem dX12_innerPrefix_17 : decode cX12_innerPrefix 17 = .ok (.istore_n 1, 1) := by decide +kernel
