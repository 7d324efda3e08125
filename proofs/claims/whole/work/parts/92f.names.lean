theorem dX12_isGrantedIn_17 : decode cX12_isGrantedIn 17 = .ok (.aload_n 0, 1) := by decide +kernel
theorem dX12_isGrantedIn_18 : decode cX12_isGrantedIn 18 = .ok (.getfield 181, 3) := by decide +kernel
theorem dX12_isGrantedIn_21 : decode cX12_isGrantedIn 21 = .ok (.iload_n 3, 1) := by decide +kernel
theorem dX12_isGrantedIn_22 : decode cX12_isGrantedIn 22 = .ok (.iaload, 1) := by decide +kernel
theorem dX12_isGrantedIn_23 : decode cX12_isGrantedIn 23 = .ok (.istore 4, 2) := by decide +kernel
theorem dX12_isGrantedIn_25 : decode cX12_isGrantedIn 25 = .ok (.iload_n 2, 1) := by decide +kernel
theorem dX12_isGrantedIn_26 : decode cX12_isGrantedIn 26 = .ok (.aload_n 0, 1) := by decide +kernel
theorem dX12_isGrantedIn_27 : decode cX12_isGrantedIn 27 = .ok (.getfield 57, 3) := by decide +kernel
theorem dX12_isGrantedIn_30 : decode cX12_isGrantedIn 30 = .ok (.aload_n 0, 1) := by decide +kernel
theorem dX12_isGrantedIn_31 : decode cX12_isGrantedIn 31 = .ok (.getfield 66, 3) := by decide +kernel
theorem dX12_isGrantedIn_34 : decode cX12_isGrantedIn 34 = .ok (.iload 4, 2) := by decide +kernel
theorem dX12_isGrantedIn_36 : decode cX12_isGrantedIn 36 = .ok (.iaload, 1) := by decide +kernel
theorem dX12_isGrantedIn_37 : decode cX12_isGrantedIn 37 = .ok (.iaload, 1) := by decide +kernel
theorem dX12_isGrantedIn_38 : decode cX12_isGrantedIn 38 = .ok (.ishr, 1) := by decide +kernel
theorem dX12_isGrantedIn_39 : decode cX12_isGrantedIn 39 = .ok (.iconst 1, 1) := by decide +kernel
theorem dX12_isGrantedIn_40 : decode cX12_isGrantedIn 40 = .ok (.iand, 1) := by decide +kernel
theorem dX12_isGrantedIn_41 : decode cX12_isGrantedIn 41 = .ok (.ifCond .ne 5, 3) := by decide +kernel
theorem dX12_isGrantedIn_44 : decode cX12_isGrantedIn 44 = .ok (.iconst 0, 1) := by decide +kernel
theorem dX12_isGrantedIn_45 : decode cX12_isGrantedIn 45 = .ok (.ireturn, 1) := by decide +kernel
theorem dX12_isGrantedIn_46 : decode cX12_isGrantedIn 46 = .ok (.aload_n 0, 1) := by decide +kernel
theorem dX12_isGrantedIn_47 : decode cX12_isGrantedIn 47 = .ok (.getfield 63, 3) := by decide +kernel
theorem dX12_isGrantedIn_50 : decode cX12_isGrantedIn 50 = .ok (.iload 4, 2) := by decide +kernel
theorem dX12_isGrantedIn_52 : decode cX12_isGrantedIn 52 = .ok (.iaload, 1) := by decide +kernel
theorem dX12_isGrantedIn_53 : decode cX12_isGrantedIn 53 = .ok (.iconst 2, 1) := by decide +kernel
theorem dX12_isGrantedIn_54 : decode cX12_isGrantedIn 54 = .ok (.if_icmp .eq 32, 3) := by decide +kernel
theorem dX12_isGrantedIn_57 : decode cX12_isGrantedIn 57 = .ok (.aload_n 0, 1) := by decide +kernel
theorem dX12_isGrantedIn_58 : decode cX12_isGrantedIn 58 = .ok (.getfield 63, 3) := by decide +kernel
theorem dX12_isGrantedIn_61 : decode cX12_isGrantedIn 61 = .ok (.iload 4, 2) := by decide +kernel
theorem dX12_isGrantedIn_63 : decode cX12_isGrantedIn 63 = .ok (.iaload, 1) := by decide +kernel
theorem dX12_isGrantedIn_64 : decode cX12_isGrantedIn 64 = .ok (.iconst 3, 1) := by decide +kernel
theorem dX12_isGrantedIn_65 : decode cX12_isGrantedIn 65 = .ok (.if_icmp .ne 23, 3) := by decide +kernel
theorem dX12_isGrantedIn_68 : decode cX12_isGrantedIn 68 = .ok (.iload_n 2, 1) := by decide +kernel
theorem dX12_isGrantedIn_69 : decode cX12_isGrantedIn 69 = .ok (.bipush 8, 2) := by decide +kernel
theorem dX12_isGrantedIn_71 : decode cX12_isGrantedIn 71 = .ok (.aload_n 0, 1) := by decide +kernel
theorem dX12_isGrantedIn_72 : decode cX12_isGrantedIn 72 = .ok (.getfield 81, 3) := by decide +kernel
theorem dX12_isGrantedIn_75 : decode cX12_isGrantedIn 75 = .ok (.iload 4, 2) := by decide +kernel
theorem dX12_isGrantedIn_77 : decode cX12_isGrantedIn 77 = .ok (.iaload, 1) := by decide +kernel
theorem dX12_isGrantedIn_78 : decode cX12_isGrantedIn 78 = .ok (.iadd, 1) := by decide +kernel
theorem dX12_isGrantedIn_79 : decode cX12_isGrantedIn 79 = .ok (.ishr, 1) := by decide +kernel
theorem dX12_isGrantedIn_80 : decode cX12_isGrantedIn 80 = .ok (.iconst 1, 1) := by decide +kernel
theorem dX12_isGrantedIn_81 : decode cX12_isGrantedIn 81 = .ok (.iand, 1) := by decide +kernel
theorem dX12_isGrantedIn_82 : decode cX12_isGrantedIn 82 = .ok (.iconst 1, 1) := by decide +kernel
theorem dX12_isGrantedIn_83 : decode cX12_isGrantedIn 83 = .ok (.if_icmp .ne 5, 3) := by decide +kernel
theorem dX12_isGrantedIn_86 : decode cX12_isGrantedIn 86 = .ok (.iconst 1, 1) := by decide +kernel
theorem dX12_isGrantedIn_87 : decode cX12_isGrantedIn 87 = .ok (.ireturn, 1) := by decide +kernel
theorem dX12_isGrantedIn_88 : decode cX12_isGrantedIn 88 = .ok (.aload_n 0, 1) := by decide +kernel
theorem dX12_isGrantedIn_89 : decode cX12_isGrantedIn 89 = .ok (.getfield 63, 3) := by decide +kernel
theorem dX12_isGrantedIn_92 : decode cX12_isGrantedIn 92 = .ok (.iload 4, 2) := by decide +kernel
theorem dX12_isGrantedIn_94 : decode cX12_isGrantedIn 94 = .ok (.iaload, 1) := by decide +kernel
theorem dX12_isGrantedIn_95 : decode cX12_isGrantedIn 95 = .ok (.iconst 4, 1) := by decide +kernel
theorem dX12_isGrantedIn_96 : decode cX12_isGrantedIn 96 = .ok (.if_icmp .ne 12, 3) := by decide +kernel
theorem dX12_isGrantedIn_99 : decode cX12_isGrantedIn 99 = .ok (.aload_n 0, 1) := by decide +kernel
theorem dX12_isGrantedIn_100 : decode cX12_isGrantedIn 100 = .ok (.getfield 187, 3) := by decide +kernel
theorem dX12_isGrantedIn_103 : decode cX12_isGrantedIn 103 = .ok (.iload_n 3, 1) := by decide +kernel
theorem dX12_isGrantedIn_104 : decode cX12_isGrantedIn 104 = .ok (.iaload, 1) := by decide +kernel
theorem dX12_isGrantedIn_105 : decode cX12_isGrantedIn 105 = .ok (.goto 9, 3) := by decide +kernel
theorem dX12_isGrantedIn_108 : decode cX12_isGrantedIn 108 = .ok (.aload_n 0, 1) := by decide +kernel
theorem dX12_isGrantedIn_109 : decode cX12_isGrantedIn 109 = .ok (.getfield 184, 3) := by decide +kernel
theorem dX12_isGrantedIn_112 : decode cX12_isGrantedIn 112 = .ok (.iload_n 3, 1) := by decide +kernel
theorem dX12_isGrantedIn_113 : decode cX12_isGrantedIn 113 = .ok (.iaload, 1) := by decide +kernel
theorem dX12_isGrantedIn_114 : decode cX12_isGrantedIn 114 = .ok (.istore_n 3, 1) := by decide +kernel
theorem dX12_isGrantedIn_115 : decode cX12_isGrantedIn 115 = .ok (.goto (-113), 3) := by decide +kernel
theorem dX12_isGrantedIn_118 : decode cX12_isGrantedIn 118 = .ok (.iconst 1, 1) := by decide +kernel
theorem dX12_isGrantedIn_119 : decode cX12_isGrantedIn 119 = .ok (.ireturn, 1) := by decide +kernel
theorem dX12_frameAt_0 : decode cX12_frameAt 0 = .ok (.bipush 60, 2) := by decide +kernel
theorem dX12_frameAt_2 : decode cX12_frameAt 2 = .ok (.aload_n 0, 1) := by decide +kernel
theorem dX12_frameAt_3 : decode cX12_frameAt 3 = .ok (.getfield 759, 3) := by decide +kernel
theorem dX12_frameAt_6 : decode cX12_frameAt 6 = .ok (.imul, 1) := by decide +kernel
theorem dX12_frameAt_7 : decode cX12_frameAt 7 = .ok (.aload_n 0, 1) := by decide +kernel
theorem dX12_frameAt_8 : decode cX12_frameAt 8 = .ok (.getfield 205, 3) := by decide +kernel
theorem dX12_frameAt_11 : decode cX12_frameAt 11 = .ok (.aload_n 0, 1) := by decide +kernel
theorem dX12_frameAt_12 : decode cX12_frameAt 12 = .ok (.getfield 759, 3) := by decide +kernel
theorem dX12_frameAt_15 : decode cX12_frameAt 15 = .ok (.iaload, 1) := by decide +kernel
theorem dX12_frameAt_16 : decode cX12_frameAt 16 = .ok (.iadd, 1) := by decide +kernel
theorem dX12_frameAt_17 : decode cX12_frameAt 17 = .ok (.iconst 1, 1) := by decide +kernel
theorem dX12_frameAt_18 : decode cX12_frameAt 18 = .ok (.isub, 1) := by decide +kernel
theorem dX12_frameAt_19 : decode cX12_frameAt 19 = .ok (.ireturn, 1) := by decide +kernel
theorem dX12_push_0 : decode cX12_push 0 = .ok (.sipush 9000, 3) := by decide +kernel
theorem dX12_push_3 : decode cX12_push 3 = .ok (.aload_n 0, 1) := by decide +kernel
theorem dX12_push_4 : decode cX12_push 4 = .ok (.getfield 759, 3) := by decide +kernel
theorem dX12_push_7 : decode cX12_push 7 = .ok (.imul, 1) := by decide +kernel
theorem dX12_push_8 : decode cX12_push 8 = .ok (.aload_n 0, 1) := by decide +kernel
theorem dX12_push_9 : decode cX12_push 9 = .ok (.getfield 233, 3) := by decide +kernel
theorem dX12_push_12 : decode cX12_push 12 = .ok (.aload_n 0, 1) := by decide +kernel
theorem dX12_push_13 : decode cX12_push 13 = .ok (.getfield 759, 3) := by decide +kernel
theorem dX12_push_16 : decode cX12_push 16 = .ok (.iaload, 1) := by decide +kernel
theorem dX12_push_17 : decode cX12_push 17 = .ok (.iadd, 1) := by decide +kernel
theorem dX12_push_18 : decode cX12_push 18 = .ok (.istore_n 3, 1) := by decide +kernel
theorem dX12_push_19 : decode cX12_push 19 = .ok (.aload_n 0, 1) := by decide +kernel
theorem dX12_push_20 : decode cX12_push 20 = .ok (.getfield 237, 3) := by decide +kernel
theorem dX12_push_23 : decode cX12_push 23 = .ok (.iload_n 3, 1) := by decide +kernel
theorem dX12_push_24 : decode cX12_push 24 = .ok (.iload_n 1, 1) := by decide +kernel
theorem dX12_push_25 : decode cX12_push 25 = .ok (.iastore, 1) := by decide +kernel
theorem dX12_push_26 : decode cX12_push 26 = .ok (.aload_n 0, 1) := by decide +kernel
theorem dX12_push_27 : decode cX12_push 27 = .ok (.getfield 240, 3) := by decide +kernel
theorem dX12_push_30 : decode cX12_push 30 = .ok (.iload_n 3, 1) := by decide +kernel
theorem dX12_push_31 : decode cX12_push 31 = .ok (.iload_n 2, 1) := by decide +kernel
theorem dX12_push_32 : decode cX12_push 32 = .ok (.iastore, 1) := by decide +kernel
theorem dX12_push_33 : decode cX12_push 33 = .ok (.aload_n 0, 1) := by decide +kernel
theorem dX12_push_34 : decode cX12_push 34 = .ok (.getfield 233, 3) := by decide +kernel
theorem dX12_push_37 : decode cX12_push 37 = .ok (.aload_n 0, 1) := by decide +kernel
theorem dX12_push_38 : decode cX12_push 38 = .ok (.getfield 759, 3) := by decide +kernel
theorem dX12_push_41 : decode cX12_push 41 = .ok (.dup2, 1) := by decide +kernel
theorem dX12_push_42 : decode cX12_push 42 = .ok (.iaload, 1) := by decide +kernel
theorem dX12_push_43 : decode cX12_push 43 = .ok (.iconst 1, 1) := by decide +kernel
theorem dX12_push_44 : decode cX12_push 44 = .ok (.iadd, 1) := by decide +kernel
theorem dX12_push_45 : decode cX12_push 45 = .ok (.iastore, 1) := by decide +kernel
theorem dX12_push_46 : decode cX12_push 46 = .ok (.return_, 1) := by decide +kernel
theorem dX12_pop_0 : decode cX12_pop 0 = .ok (.aload_n 0, 1) := by decide +kernel
theorem dX12_pop_1 : decode cX12_pop 1 = .ok (.getfield 233, 3) := by decide +kernel
theorem dX12_pop_4 : decode cX12_pop 4 = .ok (.aload_n 0, 1) := by decide +kernel
theorem dX12_pop_5 : decode cX12_pop 5 = .ok (.getfield 759, 3) := by decide +kernel
theorem dX12_pop_8 : decode cX12_pop 8 = .ok (.dup2, 1) := by decide +kernel
theorem dX12_pop_9 : decode cX12_pop 9 = .ok (.iaload, 1) := by decide +kernel
theorem dX12_pop_10 : decode cX12_pop 10 = .ok (.iconst 1, 1) := by decide +kernel
theorem dX12_pop_11 : decode cX12_pop 11 = .ok (.isub, 1) := by decide +kernel
theorem dX12_pop_12 : decode cX12_pop 12 = .ok (.iastore, 1) := by decide +kernel
theorem dX12_pop_13 : decode cX12_pop 13 = .ok (.aload_n 0, 1) := by decide +kernel
theorem dX12_pop_14 : decode cX12_pop 14 = .ok (.aload_n 0, 1) := by decide +kernel
theorem dX12_pop_15 : decode cX12_pop 15 = .ok (.getfield 240, 3) := by decide +kernel
theorem dX12_pop_18 : decode cX12_pop 18 = .ok (.sipush 9000, 3) := by decide +kernel
theorem dX12_pop_21 : decode cX12_pop 21 = .ok (.aload_n 0, 1) := by decide +kernel
theorem dX12_pop_22 : decode cX12_pop 22 = .ok (.getfield 759, 3) := by decide +kernel
theorem dX12_pop_25 : decode cX12_pop 25 = .ok (.imul, 1) := by decide +kernel
theorem dX12_pop_26 : decode cX12_pop 26 = .ok (.aload_n 0, 1) := by decide +kernel
theorem dX12_pop_27 : decode cX12_pop 27 = .ok (.getfield 233, 3) := by decide +kernel
theorem dX12_pop_30 : decode cX12_pop 30 = .ok (.aload_n 0, 1) := by decide +kernel
theorem dX12_pop_31 : decode cX12_pop 31 = .ok (.getfield 759, 3) := by decide +kernel
theorem dX12_pop_34 : decode cX12_pop 34 = .ok (.iaload, 1) := by decide +kernel
theorem dX12_pop_35 : decode cX12_pop 35 = .ok (.iadd, 1) := by decide +kernel
theorem dX12_pop_36 : decode cX12_pop 36 = .ok (.iaload, 1) := by decide +kernel
theorem dX12_pop_37 : decode cX12_pop 37 = .ok (.putfield 762, 3) := by decide +kernel
theorem dX12_pop_40 : decode cX12_pop 40 = .ok (.aload_n 0, 1) := by decide +kernel
theorem dX12_pop_41 : decode cX12_pop 41 = .ok (.getfield 237, 3) := by decide +kernel
theorem dX12_pop_44 : decode cX12_pop 44 = .ok (.sipush 9000, 3) := by decide +kernel
theorem dX12_pop_47 : decode cX12_pop 47 = .ok (.aload_n 0, 1) := by decide +kernel
theorem dX12_pop_48 : decode cX12_pop 48 = .ok (.getfield 759, 3) := by decide +kernel
theorem dX12_pop_51 : decode cX12_pop 51 = .ok (.imul, 1) := by decide +kernel
theorem dX12_pop_52 : decode cX12_pop 52 = .ok (.aload_n 0, 1) := by decide +kernel
theorem dX12_pop_53 : decode cX12_pop 53 = .ok (.getfield 233, 3) := by decide +kernel
theorem dX12_pop_56 : decode cX12_pop 56 = .ok (.aload_n 0, 1) := by decide +kernel
theorem dX12_pop_57 : decode cX12_pop 57 = .ok (.getfield 759, 3) := by decide +kernel
theorem dX12_pop_60 : decode cX12_pop 60 = .ok (.iaload, 1) := by decide +kernel
theorem dX12_pop_61 : decode cX12_pop 61 = .ok (.iadd, 1) := by decide +kernel
theorem dX12_pop_62 : decode cX12_pop 62 = .ok (.iaload, 1) := by decide +kernel
theorem dX12_pop_63 : decode cX12_pop 63 = .ok (.ireturn, 1) := by decide +kernel
theorem dX12_tells_0 : decode cX12_tells 0 = .ok (.aload_n 0, 1) := by decide +kernel
theorem dX12_tells_1 : decode cX12_tells 1 = .ok (.getfield 765, 3) := by decide +kernel
theorem dX12_tells_4 : decode cX12_tells 4 = .ok (.sipush 200, 3) := by decide +kernel
theorem dX12_tells_7 : decode cX12_tells 7 = .ok (.if_icmp .ge 63, 3) := by decide +kernel
theorem dX12_tells_10 : decode cX12_tells 10 = .ok (.iconst 5, 1) := by decide +kernel
theorem dX12_tells_11 : decode cX12_tells 11 = .ok (.aload_n 0, 1) := by decide +kernel
theorem dX12_tells_12 : decode cX12_tells 12 = .ok (.getfield 765, 3) := by decide +kernel
theorem dX12_tells_15 : decode cX12_tells 15 = .ok (.imul, 1) := by decide +kernel
theorem dX12_tells_16 : decode cX12_tells 16 = .ok (.istore 5, 2) := by decide +kernel
theorem dX12_tells_18 : decode cX12_tells 18 = .ok (.aload_n 0, 1) := by decide +kernel
theorem dX12_tells_19 : decode cX12_tells 19 = .ok (.getfield 165, 3) := by decide +kernel
theorem dX12_tells_22 : decode cX12_tells 22 = .ok (.iload 5, 2) := by decide +kernel
theorem dX12_tells_24 : decode cX12_tells 24 = .ok (.aload_n 0, 1) := by decide +kernel
theorem dX12_tells_25 : decode cX12_tells 25 = .ok (.getfield 759, 3) := by decide +kernel
theorem dX12_tells_28 : decode cX12_tells 28 = .ok (.iastore, 1) := by decide +kernel
theorem dX12_tells_29 : decode cX12_tells 29 = .ok (.aload_n 0, 1) := by decide +kernel
theorem dX12_tells_30 : decode cX12_tells 30 = .ok (.getfield 165, 3) := by decide +kernel
theorem dX12_tells_33 : decode cX12_tells 33 = .ok (.iload 5, 2) := by decide +kernel
theorem dX12_tells_35 : decode cX12_tells 35 = .ok (.iconst 1, 1) := by decide +kernel
theorem dX12_tells_36 : decode cX12_tells 36 = .ok (.iadd, 1) := by decide +kernel
theorem dX12_tells_37 : decode cX12_tells 37 = .ok (.iload_n 1, 1) := by decide +kernel
theorem dX12_tells_38 : decode cX12_tells 38 = .ok (.iastore, 1) := by decide +kernel
theorem dX12_tells_39 : decode cX12_tells 39 = .ok (.aload_n 0, 1) := by decide +kernel
theorem dX12_tells_40 : decode cX12_tells 40 = .ok (.getfield 165, 3) := by decide +kernel
theorem dX12_tells_43 : decode cX12_tells 43 = .ok (.iload 5, 2) := by decide +kernel
theorem dX12_tells_45 : decode cX12_tells 45 = .ok (.iconst 2, 1) := by decide +kernel
theorem dX12_tells_46 : decode cX12_tells 46 = .ok (.iadd, 1) := by decide +kernel
theorem dX12_tells_47 : decode cX12_tells 47 = .ok (.iload_n 2, 1) := by decide +kernel
theorem dX12_tells_48 : decode cX12_tells 48 = .ok (.iastore, 1) := by decide +kernel
theorem dX12_tells_49 : decode cX12_tells 49 = .ok (.aload_n 0, 1) := by decide +kernel
theorem dX12_tells_50 : decode cX12_tells 50 = .ok (.getfield 165, 3) := by decide +kernel
theorem dX12_tells_53 : decode cX12_tells 53 = .ok (.iload 5, 2) := by decide +kernel
theorem dX12_tells_55 : decode cX12_tells 55 = .ok (.iconst 3, 1) := by decide +kernel
theorem dX12_tells_56 : decode cX12_tells 56 = .ok (.iadd, 1) := by decide +kernel
theorem dX12_tells_57 : decode cX12_tells 57 = .ok (.iload_n 3, 1) := by decide +kernel
theorem dX12_tells_58 : decode cX12_tells 58 = .ok (.iastore, 1) := by decide +kernel
theorem dX12_tells_59 : decode cX12_tells 59 = .ok (.aload_n 0, 1) := by decide +kernel
theorem dX12_tells_60 : decode cX12_tells 60 = .ok (.getfield 165, 3) := by decide +kernel
theorem dX12_tells_63 : decode cX12_tells 63 = .ok (.iload 5, 2) := by decide +kernel
theorem dX12_tells_65 : decode cX12_tells 65 = .ok (.iconst 4, 1) := by decide +kernel
theorem dX12_tells_66 : decode cX12_tells 66 = .ok (.iadd, 1) := by decide +kernel
theorem dX12_tells_67 : decode cX12_tells 67 = .ok (.iload 4, 2) := by decide +kernel
theorem dX12_tells_69 : decode cX12_tells 69 = .ok (.iastore, 1) := by decide +kernel
theorem dX12_tells_70 : decode cX12_tells 70 = .ok (.aload_n 0, 1) := by decide +kernel
theorem dX12_tells_71 : decode cX12_tells 71 = .ok (.dup, 1) := by decide +kernel
theorem dX12_tells_72 : decode cX12_tells 72 = .ok (.getfield 765, 3) := by decide +kernel
theorem dX12_tells_75 : decode cX12_tells 75 = .ok (.iconst 1, 1) := by decide +kernel
theorem dX12_tells_76 : decode cX12_tells 76 = .ok (.iadd, 1) := by decide +kernel
theorem dX12_tells_77 : decode cX12_tells 77 = .ok (.putfield 765, 3) := by decide +kernel
theorem dX12_tells_80 : decode cX12_tells 80 = .ok (.return_, 1) := by decide +kernel
theorem dX12_failure_0 : decode cX12_failure 0 = .ok (.aload_n 0, 1) := by decide +kernel
theorem dX12_failure_1 : decode cX12_failure 1 = .ok (.getfield 243, 3) := by decide +kernel
theorem dX12_failure_4 : decode cX12_failure 4 = .ok (.aload_n 0, 1) := by decide +kernel
theorem dX12_failure_5 : decode cX12_failure 5 = .ok (.getfield 759, 3) := by decide +kernel
theorem dX12_failure_8 : decode cX12_failure 8 = .ok (.iaload, 1) := by decide +kernel
theorem dX12_failure_9 : decode cX12_failure 9 = .ok (.ifCond .ne 57, 3) := by decide +kernel
theorem dX12_failure_12 : decode cX12_failure 12 = .ok (.aload_n 0, 1) := by decide +kernel
theorem dX12_failure_13 : decode cX12_failure 13 = .ok (.getfield 205, 3) := by decide +kernel
theorem dX12_failure_16 : decode cX12_failure 16 = .ok (.aload_n 0, 1) := by decide +kernel
theorem dX12_failure_17 : decode cX12_failure 17 = .ok (.getfield 759, 3) := by decide +kernel
theorem dX12_failure_20 : decode cX12_failure 20 = .ok (.iconst 0, 1) := by decide +kernel
theorem dX12_failure_21 : decode cX12_failure 21 = .ok (.iastore, 1) := by decide +kernel
theorem dX12_failure_22 : decode cX12_failure 22 = .ok (.aload_n 0, 1) := by decide +kernel
theorem dX12_failure_23 : decode cX12_failure 23 = .ok (.getfield 190, 3) := by decide +kernel
theorem dX12_failure_26 : decode cX12_failure 26 = .ok (.aload_n 0, 1) := by decide +kernel
theorem dX12_failure_27 : decode cX12_failure 27 = .ok (.getfield 759, 3) := by decide +kernel
theorem dX12_failure_30 : decode cX12_failure 30 = .ok (.iconst 2, 1) := by decide +kernel
theorem dX12_failure_31 : decode cX12_failure 31 = .ok (.iastore, 1) := by decide +kernel
theorem dX12_failure_32 : decode cX12_failure 32 = .ok (.aload_n 0, 1) := by decide +kernel
theorem dX12_failure_33 : decode cX12_failure 33 = .ok (.getfield 202, 3) := by decide +kernel
theorem dX12_failure_36 : decode cX12_failure 36 = .ok (.aload_n 0, 1) := by decide +kernel
theorem dX12_failure_37 : decode cX12_failure 37 = .ok (.getfield 759, 3) := by decide +kernel
theorem dX12_failure_40 : decode cX12_failure 40 = .ok (.iload_n 1, 1) := by decide +kernel
theorem dX12_failure_41 : decode cX12_failure 41 = .ok (.iastore, 1) := by decide +kernel
theorem dX12_failure_42 : decode cX12_failure 42 = .ok (.aload_n 0, 1) := by decide +kernel
theorem dX12_failure_43 : decode cX12_failure 43 = .ok (.getfield 199, 3) := by decide +kernel
theorem dX12_failure_46 : decode cX12_failure 46 = .ok (.aload_n 0, 1) := by decide +kernel
theorem dX12_failure_47 : decode cX12_failure 47 = .ok (.getfield 759, 3) := by decide +kernel
theorem dX12_failure_50 : decode cX12_failure 50 = .ok (.iconst (-1), 1) := by decide +kernel
theorem dX12_failure_51 : decode cX12_failure 51 = .ok (.iastore, 1) := by decide +kernel
theorem dX12_failure_52 : decode cX12_failure 52 = .ok (.aload_n 0, 1) := by decide +kernel
theorem dX12_failure_53 : decode cX12_failure 53 = .ok (.iconst 2, 1) := by decide +kernel
theorem dX12_failure_54 : decode cX12_failure 54 = .ok (.iload_n 1, 1) := by decide +kernel
theorem dX12_failure_55 : decode cX12_failure 55 = .ok (.iconst (-1), 1) := by decide +kernel
theorem dX12_failure_56 : decode cX12_failure 56 = .ok (.iconst (-1), 1) := by decide +kernel
theorem dX12_failure_57 : decode cX12_failure 57 = .ok (.invokevirtual 768, 3) := by decide +kernel
theorem dX12_failure_60 : decode cX12_failure 60 = .ok (.aload_n 0, 1) := by decide +kernel
theorem dX12_failure_61 : decode cX12_failure 61 = .ok (.iconst 0, 1) := by decide +kernel
theorem dX12_failure_62 : decode cX12_failure 62 = .ok (.putfield 772, 3) := by decide +kernel
theorem dX12_failure_65 : decode cX12_failure 65 = .ok (.return_, 1) := by decide +kernel
theorem dX12_failure_66 : decode cX12_failure 66 = .ok (.aload_n 0, 1) := by decide +kernel
theorem dX12_failure_67 : decode cX12_failure 67 = .ok (.getfield 243, 3) := by decide +kernel
theorem dX12_failure_70 : decode cX12_failure 70 = .ok (.aload_n 0, 1) := by decide +kernel
theorem dX12_failure_71 : decode cX12_failure 71 = .ok (.getfield 759, 3) := by decide +kernel
theorem dX12_failure_74 : decode cX12_failure 74 = .ok (.dup2, 1) := by decide +kernel
theorem dX12_failure_75 : decode cX12_failure 75 = .ok (.iaload, 1) := by decide +kernel
theorem dX12_failure_76 : decode cX12_failure 76 = .ok (.iconst 1, 1) := by decide +kernel
theorem dX12_failure_77 : decode cX12_failure 77 = .ok (.isub, 1) := by decide +kernel
theorem dX12_failure_78 : decode cX12_failure 78 = .ok (.iastore, 1) := by decide +kernel
theorem dX12_failure_79 : decode cX12_failure 79 = .ok (.sipush 1500, 3) := by decide +kernel
theorem dX12_failure_82 : decode cX12_failure 82 = .ok (.aload_n 0, 1) := by decide +kernel
theorem dX12_failure_83 : decode cX12_failure 83 = .ok (.getfield 759, 3) := by decide +kernel
theorem dX12_failure_86 : decode cX12_failure 86 = .ok (.imul, 1) := by decide +kernel
theorem dX12_failure_87 : decode cX12_failure 87 = .ok (.aload_n 0, 1) := by decide +kernel
theorem dX12_failure_88 : decode cX12_failure 88 = .ok (.getfield 243, 3) := by decide +kernel
theorem dX12_failure_91 : decode cX12_failure 91 = .ok (.aload_n 0, 1) := by decide +kernel
theorem dX12_failure_92 : decode cX12_failure 92 = .ok (.getfield 759, 3) := by decide +kernel
theorem dX12_failure_95 : decode cX12_failure 95 = .ok (.iaload, 1) := by decide +kernel
theorem dX12_failure_96 : decode cX12_failure 96 = .ok (.iadd, 1) := by decide +kernel
theorem dX12_failure_97 : decode cX12_failure 97 = .ok (.istore_n 2, 1) := by decide +kernel
theorem dX12_failure_98 : decode cX12_failure 98 = .ok (.aload_n 0, 1) := by decide +kernel
theorem dX12_failure_99 : decode cX12_failure 99 = .ok (.getfield 205, 3) := by decide +kernel
theorem dX12_failure_102 : decode cX12_failure 102 = .ok (.aload_n 0, 1) := by decide +kernel
theorem dX12_failure_103 : decode cX12_failure 103 = .ok (.getfield 759, 3) := by decide +kernel
theorem dX12_failure_106 : decode cX12_failure 106 = .ok (.aload_n 0, 1) := by decide +kernel
theorem dX12_failure_107 : decode cX12_failure 107 = .ok (.getfield 246, 3) := by decide +kernel
theorem dX12_failure_110 : decode cX12_failure 110 = .ok (.iload_n 2, 1) := by decide +kernel
theorem dX12_failure_111 : decode cX12_failure 111 = .ok (.iaload, 1) := by decide +kernel
theorem dX12_failure_112 : decode cX12_failure 112 = .ok (.iastore, 1) := by decide +kernel
theorem dX12_failure_113 : decode cX12_failure 113 = .ok (.aload_n 0, 1) := by decide +kernel
theorem dX12_failure_114 : decode cX12_failure 114 = .ok (.getfield 233, 3) := by decide +kernel
theorem dX12_failure_117 : decode cX12_failure 117 = .ok (.aload_n 0, 1) := by decide +kernel
theorem dX12_failure_118 : decode cX12_failure 118 = .ok (.getfield 759, 3) := by decide +kernel
theorem dX12_failure_121 : decode cX12_failure 121 = .ok (.aload_n 0, 1) := by decide +kernel
theorem dX12_failure_122 : decode cX12_failure 122 = .ok (.getfield 249, 3) := by decide +kernel
theorem dX12_failure_125 : decode cX12_failure 125 = .ok (.iload_n 2, 1) := by decide +kernel
theorem dX12_failure_126 : decode cX12_failure 126 = .ok (.iaload, 1) := by decide +kernel
theorem dX12_failure_127 : decode cX12_failure 127 = .ok (.iastore, 1) := by decide +kernel
theorem dX12_failure_128 : decode cX12_failure 128 = .ok (.aload_n 0, 1) := by decide +kernel
theorem dX12_failure_129 : decode cX12_failure 129 = .ok (.getfield 223, 3) := by decide +kernel
theorem dX12_failure_132 : decode cX12_failure 132 = .ok (.aload_n 0, 1) := by decide +kernel
theorem dX12_failure_133 : decode cX12_failure 133 = .ok (.getfield 759, 3) := by decide +kernel
theorem dX12_failure_136 : decode cX12_failure 136 = .ok (.aload_n 0, 1) := by decide +kernel
theorem dX12_failure_137 : decode cX12_failure 137 = .ok (.getfield 214, 3) := by decide +kernel
theorem dX12_failure_140 : decode cX12_failure 140 = .ok (.aload_n 0, 1) := by decide +kernel
theorem dX12_failure_141 : decode cX12_failure 141 = .ok (.invokevirtual 775, 3) := by decide +kernel
theorem dX12_failure_144 : decode cX12_failure 144 = .ok (.iaload, 1) := by decide +kernel
theorem dX12_failure_145 : decode cX12_failure 145 = .ok (.aload_n 0, 1) := by decide +kernel
theorem dX12_failure_146 : decode cX12_failure 146 = .ok (.aload_n 0, 1) := by decide +kernel
theorem dX12_failure_147 : decode cX12_failure 147 = .ok (.getfield 208, 3) := by decide +kernel
theorem dX12_failure_150 : decode cX12_failure 150 = .ok (.aload_n 0, 1) := by decide +kernel
theorem dX12_failure_151 : decode cX12_failure 151 = .ok (.invokevirtual 775, 3) := by decide +kernel
theorem dX12_failure_154 : decode cX12_failure 154 = .ok (.iaload, 1) := by decide +kernel
theorem dX12_failure_155 : decode cX12_failure 155 = .ok (.invokevirtual 680, 3) := by decide +kernel
theorem dX12_failure_158 : decode cX12_failure 158 = .ok (.iadd, 1) := by decide +kernel
theorem dX12_failure_159 : decode cX12_failure 159 = .ok (.iastore, 1) := by decide +kernel
theorem dX12_failure_160 : decode cX12_failure 160 = .ok (.aload_n 0, 1) := by decide +kernel
theorem dX12_failure_161 : decode cX12_failure 161 = .ok (.getfield 211, 3) := by decide +kernel
theorem dX12_failure_164 : decode cX12_failure 164 = .ok (.aload_n 0, 1) := by decide +kernel
theorem dX12_failure_165 : decode cX12_failure 165 = .ok (.invokevirtual 775, 3) := by decide +kernel
theorem dX12_failure_168 : decode cX12_failure 168 = .ok (.aload_n 0, 1) := by decide +kernel
theorem dX12_failure_169 : decode cX12_failure 169 = .ok (.getfield 252, 3) := by decide +kernel
theorem dX12_failure_172 : decode cX12_failure 172 = .ok (.iload_n 2, 1) := by decide +kernel
theorem dX12_failure_173 : decode cX12_failure 173 = .ok (.iaload, 1) := by decide +kernel
theorem dX12_failure_174 : decode cX12_failure 174 = .ok (.iastore, 1) := by decide +kernel
theorem dX12_failure_175 : decode cX12_failure 175 = .ok (.aload_n 0, 1) := by decide +kernel
theorem dX12_failure_176 : decode cX12_failure 176 = .ok (.iconst 0, 1) := by decide +kernel
theorem dX12_failure_177 : decode cX12_failure 177 = .ok (.iload_n 1, 1) := by decide +kernel
theorem dX12_failure_178 : decode cX12_failure 178 = .ok (.invokevirtual 778, 3) := by decide +kernel
theorem dX12_failure_181 : decode cX12_failure 181 = .ok (.return_, 1) := by decide +kernel
theorem dX12_begin_0 : decode cX12_begin 0 = .ok (.aload_n 0, 1) := by decide +kernel
theorem dX12_begin_1 : decode cX12_begin 1 = .ok (.getfield 781, 3) := by decide +kernel
theorem dX12_begin_4 : decode cX12_begin 4 = .ok (.aload_n 0, 1) := by decide +kernel
theorem dX12_begin_5 : decode cX12_begin 5 = .ok (.getfield 784, 3) := by decide +kernel
theorem dX12_begin_8 : decode cX12_begin 8 = .ok (.if_icmp .ne 15, 3) := by decide +kernel
theorem dX12_begin_11 : decode cX12_begin 11 = .ok (.aload_n 0, 1) := by decide +kernel
theorem dX12_begin_12 : decode cX12_begin 12 = .ok (.iconst 1, 1) := by decide +kernel
theorem dX12_begin_13 : decode cX12_begin 13 = .ok (.putfield 787, 3) := by decide +kernel
theorem dX12_begin_16 : decode cX12_begin 16 = .ok (.aload_n 0, 1) := by decide +kernel
theorem dX12_begin_17 : decode cX12_begin 17 = .ok (.iconst 0, 1) := by decide +kernel
theorem dX12_begin_18 : decode cX12_begin 18 = .ok (.putfield 772, 3) := by decide +kernel
theorem dX12_begin_21 : decode cX12_begin 21 = .ok (.iconst 0, 1) := by decide +kernel
theorem dX12_begin_22 : decode cX12_begin 22 = .ok (.ireturn, 1) := by decide +kernel
theorem dX12_begin_23 : decode cX12_begin 23 = .ok (.aload_n 0, 1) := by decide +kernel
theorem dX12_begin_24 : decode cX12_begin 24 = .ok (.getfield 205, 3) := by decide +kernel
theorem dX12_begin_27 : decode cX12_begin 27 = .ok (.iload_n 1, 1) := by decide +kernel
theorem dX12_begin_28 : decode cX12_begin 28 = .ok (.iaload, 1) := by decide +kernel
theorem dX12_begin_29 : decode cX12_begin 29 = .ok (.bipush 60, 2) := by decide +kernel
theorem dX12_begin_31 : decode cX12_begin 31 = .ok (.if_icmp .ne 11, 3) := by decide +kernel
theorem dX12_begin_34 : decode cX12_begin 34 = .ok (.aload_n 0, 1) := by decide +kernel
theorem dX12_begin_35 : decode cX12_begin 35 = .ok (.bipush 6, 2) := by decide +kernel
theorem dX12_begin_37 : decode cX12_begin 37 = .ok (.invokevirtual 790, 3) := by decide +kernel
theorem dX12_begin_40 : decode cX12_begin 40 = .ok (.iconst 0, 1) := by decide +kernel
theorem dX12_begin_41 : decode cX12_begin 41 = .ok (.ireturn, 1) := by decide +kernel
theorem dX12_begin_42 : decode cX12_begin 42 = .ok (.aload_n 0, 1) := by decide +kernel
theorem dX12_begin_43 : decode cX12_begin 43 = .ok (.dup, 1) := by decide +kernel
theorem dX12_begin_44 : decode cX12_begin 44 = .ok (.getfield 781, 3) := by decide +kernel
theorem dX12_begin_47 : decode cX12_begin 47 = .ok (.iconst 1, 1) := by decide +kernel
theorem dX12_begin_48 : decode cX12_begin 48 = .ok (.iadd, 1) := by decide +kernel
theorem dX12_begin_49 : decode cX12_begin 49 = .ok (.putfield 781, 3) := by decide +kernel
theorem dX12_begin_52 : decode cX12_begin 52 = .ok (.aload_n 0, 1) := by decide +kernel
theorem dX12_begin_53 : decode cX12_begin 53 = .ok (.getfield 793, 3) := by decide +kernel
theorem dX12_begin_56 : decode cX12_begin 56 = .ok (.istore 4, 2) := by decide +kernel
theorem dX12_begin_58 : decode cX12_begin 58 = .ok (.aload_n 0, 1) := by decide +kernel
theorem dX12_begin_59 : decode cX12_begin 59 = .ok (.dup, 1) := by decide +kernel
theorem dX12_begin_60 : decode cX12_begin 60 = .ok (.getfield 793, 3) := by decide +kernel
theorem dX12_begin_63 : decode cX12_begin 63 = .ok (.iconst 1, 1) := by decide +kernel
theorem dX12_begin_64 : decode cX12_begin 64 = .ok (.iadd, 1) := by decide +kernel
theorem dX12_begin_65 : decode cX12_begin 65 = .ok (.putfield 793, 3) := by decide +kernel
theorem dX12_begin_68 : decode cX12_begin 68 = .ok (.aload_n 0, 1) := by decide +kernel
theorem dX12_begin_69 : decode cX12_begin 69 = .ok (.getfield 205, 3) := by decide +kernel
theorem dX12_begin_72 : decode cX12_begin 72 = .ok (.aload_n 0, 1) := by decide +kernel
theorem dX12_begin_73 : decode cX12_begin 73 = .ok (.getfield 759, 3) := by decide +kernel
theorem dX12_begin_76 : decode cX12_begin 76 = .ok (.iaload, 1) := by decide +kernel
theorem dX12_begin_77 : decode cX12_begin 77 = .ok (.ifCond .le 10, 3) := by decide +kernel
theorem dX12_begin_80 : decode cX12_begin 80 = .ok (.aload_n 0, 1) := by decide +kernel
theorem dX12_begin_81 : decode cX12_begin 81 = .ok (.invokevirtual 775, 3) := by decide +kernel
theorem dX12_begin_84 : decode cX12_begin 84 = .ok (.goto 4, 3) := by decide +kernel
theorem dX12_begin_87 : decode cX12_begin 87 = .ok (.iconst (-1), 1) := by decide +kernel
theorem dX12_begin_88 : decode cX12_begin 88 = .ok (.istore 5, 2) := by decide +kernel
theorem dX12_begin_90 : decode cX12_begin 90 = .ok (.aload_n 0, 1) := by decide +kernel
theorem dX12_begin_91 : decode cX12_begin 91 = .ok (.getfield 181, 3) := by decide +kernel
theorem dX12_begin_94 : decode cX12_begin 94 = .ok (.iload 4, 2) := by decide +kernel
theorem dX12_begin_96 : decode cX12_begin 96 = .ok (.iload_n 2, 1) := by decide +kernel
theorem dX12_begin_97 : decode cX12_begin 97 = .ok (.iastore, 1) := by decide +kernel
theorem dX12_begin_98 : decode cX12_begin 98 = .ok (.aload_n 0, 1) := by decide +kernel
theorem dX12_begin_99 : decode cX12_begin 99 = .ok (.getfield 184, 3) := by decide +kernel
theorem dX12_begin_102 : decode cX12_begin 102 = .ok (.iload 4, 2) := by decide +kernel
theorem dX12_begin_104 : decode cX12_begin 104 = .ok (.iload 5, 2) := by decide +kernel
theorem dX12_begin_106 : decode cX12_begin 106 = .ok (.iconst (-1), 1) := by decide +kernel
theorem dX12_begin_107 : decode cX12_begin 107 = .ok (.if_icmp .ne 7, 3) := by decide +kernel
theorem dX12_begin_110 : decode cX12_begin 110 = .ok (.iconst (-1), 1) := by decide +kernel
theorem dX12_begin_111 : decode cX12_begin 111 = .ok (.goto 10, 3) := by decide +kernel
theorem dX12_begin_114 : decode cX12_begin 114 = .ok (.aload_n 0, 1) := by decide +kernel
theorem dX12_begin_115 : decode cX12_begin 115 = .ok (.getfield 217, 3) := by decide +kernel
theorem dX12_begin_118 : decode cX12_begin 118 = .ok (.iload 5, 2) := by decide +kernel
theorem dX12_begin_120 : decode cX12_begin 120 = .ok (.iaload, 1) := by decide +kernel
theorem dX12_begin_121 : decode cX12_begin 121 = .ok (.iastore, 1) := by decide +kernel
theorem dX12_begin_122 : decode cX12_begin 122 = .ok (.aload_n 0, 1) := by decide +kernel
theorem dX12_begin_123 : decode cX12_begin 123 = .ok (.getfield 187, 3) := by decide +kernel
theorem dX12_begin_126 : decode cX12_begin 126 = .ok (.iload 4, 2) := by decide +kernel
theorem dX12_begin_128 : decode cX12_begin 128 = .ok (.aload_n 0, 1) := by decide +kernel
theorem dX12_begin_129 : decode cX12_begin 129 = .ok (.getfield 63, 3) := by decide +kernel
theorem dX12_begin_132 : decode cX12_begin 132 = .ok (.iload_n 2, 1) := by decide +kernel
theorem dX12_begin_133 : decode cX12_begin 133 = .ok (.iaload, 1) := by decide +kernel
theorem dX12_begin_134 : decode cX12_begin 134 = .ok (.iconst 4, 1) := by decide +kernel
theorem dX12_begin_135 : decode cX12_begin 135 = .ok (.if_icmp .ne 7, 3) := by decide +kernel
theorem dX12_begin_138 : decode cX12_begin 138 = .ok (.iload_n 3, 1) := by decide +kernel
theorem dX12_begin_139 : decode cX12_begin 139 = .ok (.goto 4, 3) := by decide +kernel
theorem dX12_begin_142 : decode cX12_begin 142 = .ok (.iconst (-1), 1) := by decide +kernel
theorem dX12_begin_143 : decode cX12_begin 143 = .ok (.iastore, 1) := by decide +kernel
theorem dX12_begin_144 : decode cX12_begin 144 = .ok (.aload_n 0, 1) := by decide +kernel
theorem dX12_begin_145 : decode cX12_begin 145 = .ok (.getfield 63, 3) := by decide +kernel
theorem dX12_begin_148 : decode cX12_begin 148 = .ok (.iload_n 2, 1) := by decide +kernel
theorem dX12_begin_149 : decode cX12_begin 149 = .ok (.iaload, 1) := by decide +kernel
theorem dX12_begin_150 : decode cX12_begin 150 = .ok (.iconst 4, 1) := by decide +kernel
theorem dX12_begin_151 : decode cX12_begin 151 = .ok (.if_icmp .ne 7, 3) := by decide +kernel
theorem dX12_begin_154 : decode cX12_begin 154 = .ok (.iload_n 3, 1) := by decide +kernel
theorem dX12_begin_155 : decode cX12_begin 155 = .ok (.goto 20, 3) := by decide +kernel
theorem dX12_begin_158 : decode cX12_begin 158 = .ok (.iload 5, 2) := by decide +kernel
theorem dX12_begin_160 : decode cX12_begin 160 = .ok (.iconst (-1), 1) := by decide +kernel
theorem dX12_begin_161 : decode cX12_begin 161 = .ok (.if_icmp .ne 7, 3) := by decide +kernel
theorem dX12_begin_164 : decode cX12_begin 164 = .ok (.iconst 0, 1) := by decide +kernel
theorem dX12_begin_165 : decode cX12_begin 165 = .ok (.goto 10, 3) := by decide +kernel
theorem dX12_begin_168 : decode cX12_begin 168 = .ok (.aload_n 0, 1) := by decide +kernel
theorem dX12_begin_169 : decode cX12_begin 169 = .ok (.getfield 220, 3) := by decide +kernel
theorem dX12_begin_172 : decode cX12_begin 172 = .ok (.iload 5, 2) := by decide +kernel
theorem dX12_begin_174 : decode cX12_begin 174 = .ok (.iaload, 1) := by decide +kernel
theorem dX12_begin_175 : decode cX12_begin 175 = .ok (.istore 6, 2) := by decide +kernel
theorem dX12_begin_177 : decode cX12_begin 177 = .ok (.aload_n 0, 1) := by decide +kernel
theorem dX12_begin_178 : decode cX12_begin 178 = .ok (.getfield 796, 3) := by decide +kernel
theorem dX12_begin_181 : decode cX12_begin 181 = .ok (.ifCond .eq 22, 3) := by decide +kernel
theorem dX12_begin_184 : decode cX12_begin 184 = .ok (.aload_n 0, 1) := by decide +kernel
theorem dX12_begin_185 : decode cX12_begin 185 = .ok (.getfield 96, 3) := by decide +kernel
theorem dX12_begin_188 : decode cX12_begin 188 = .ok (.iload_n 2, 1) := by decide +kernel
theorem dX12_begin_189 : decode cX12_begin 189 = .ok (.baload, 1) := by decide +kernel
theorem dX12_begin_190 : decode cX12_begin 190 = .ok (.ifCond .eq 13, 3) := by decide +kernel
theorem dX12_begin_193 : decode cX12_begin 193 = .ok (.aload_n 0, 1) := by decide +kernel
theorem dX12_begin_194 : decode cX12_begin 194 = .ok (.iload_n 2, 1) := by decide +kernel
theorem dX12_begin_195 : decode cX12_begin 195 = .ok (.iload 6, 2) := by decide +kernel
theorem dX12_begin_197 : decode cX12_begin 197 = .ok (.invokevirtual 799, 3) := by decide +kernel
theorem dX12_begin_200 : decode cX12_begin 200 = .ok (.goto 4, 3) := by decide +kernel
theorem dX12_begin_203 : decode cX12_begin 203 = .ok (.iconst 0, 1) := by decide +kernel
theorem dX12_begin_204 : decode cX12_begin 204 = .ok (.istore 7, 2) := by decide +kernel
theorem dX12_begin_206 : decode cX12_begin 206 = .ok (.bipush 60, 2) := by decide +kernel
theorem dX12_begin_208 : decode cX12_begin 208 = .ok (.iload_n 1, 1) := by decide +kernel
theorem dX12_begin_209 : decode cX12_begin 209 = .ok (.imul, 1) := by decide +kernel
theorem dX12_begin_210 : decode cX12_begin 210 = .ok (.aload_n 0, 1) := by decide +kernel
theorem dX12_begin_211 : decode cX12_begin 211 = .ok (.getfield 205, 3) := by decide +kernel
theorem dX12_begin_214 : decode cX12_begin 214 = .ok (.iload_n 1, 1) := by decide +kernel
theorem dX12_begin_215 : decode cX12_begin 215 = .ok (.iaload, 1) := by decide +kernel
theorem dX12_begin_216 : decode cX12_begin 216 = .ok (.iadd, 1) := by decide +kernel
theorem dX12_begin_217 : decode cX12_begin 217 = .ok (.istore 8, 2) := by decide +kernel
theorem dX12_begin_219 : decode cX12_begin 219 = .ok (.aload_n 0, 1) := by decide +kernel
theorem dX12_begin_220 : decode cX12_begin 220 = .ok (.getfield 205, 3) := by decide +kernel
theorem dX12_begin_223 : decode cX12_begin 223 = .ok (.iload_n 1, 1) := by decide +kernel
theorem dX12_begin_224 : decode cX12_begin 224 = .ok (.dup2, 1) := by decide +kernel
theorem dX12_begin_225 : decode cX12_begin 225 = .ok (.iaload, 1) := by decide +kernel
theorem dX12_begin_226 : decode cX12_begin 226 = .ok (.iconst 1, 1) := by decide +kernel
theorem dX12_begin_227 : decode cX12_begin 227 = .ok (.iadd, 1) := by decide +kernel
theorem dX12_begin_228 : decode cX12_begin 228 = .ok (.iastore, 1) := by decide +kernel
theorem dX12_begin_229 : decode cX12_begin 229 = .ok (.aload_n 0, 1) := by decide +kernel
theorem dX12_begin_230 : decode cX12_begin 230 = .ok (.getfield 196, 3) := by decide +kernel
theorem dX12_begin_233 : decode cX12_begin 233 = .ok (.iload_n 1, 1) := by decide +kernel
theorem dX12_begin_234 : decode cX12_begin 234 = .ok (.dup2, 1) := by decide +kernel
theorem dX12_begin_235 : decode cX12_begin 235 = .ok (.iaload, 1) := by decide +kernel
theorem dX12_begin_236 : decode cX12_begin 236 = .ok (.iconst 1, 1) := by decide +kernel
theorem dX12_begin_237 : decode cX12_begin 237 = .ok (.iadd, 1) := by decide +kernel
theorem dX12_begin_238 : decode cX12_begin 238 = .ok (.iastore, 1) := by decide +kernel
theorem dX12_begin_239 : decode cX12_begin 239 = .ok (.aload_n 0, 1) := by decide +kernel
theorem dX12_begin_240 : decode cX12_begin 240 = .ok (.aload_n 0, 1) := by decide +kernel
theorem dX12_begin_241 : decode cX12_begin 241 = .ok (.getfield 205, 3) := by decide +kernel
theorem dX12_begin_244 : decode cX12_begin 244 = .ok (.iload_n 1, 1) := by decide +kernel
theorem dX12_begin_245 : decode cX12_begin 245 = .ok (.iaload, 1) := by decide +kernel
theorem dX12_begin_246 : decode cX12_begin 246 = .ok (.aload_n 0, 1) := by decide +kernel
theorem dX12_begin_247 : decode cX12_begin 247 = .ok (.getfield 802, 3) := by decide +kernel
theorem dX12_begin_250 : decode cX12_begin 250 = .ok (.if_icmp .le 12, 3) := by decide +kernel
theorem dX12_begin_253 : decode cX12_begin 253 = .ok (.aload_n 0, 1) := by decide +kernel
theorem dX12_begin_254 : decode cX12_begin 254 = .ok (.getfield 205, 3) := by decide +kernel
theorem dX12_begin_257 : decode cX12_begin 257 = .ok (.iload_n 1, 1) := by decide +kernel
theorem dX12_begin_258 : decode cX12_begin 258 = .ok (.iaload, 1) := by decide +kernel
theorem dX12_begin_259 : decode cX12_begin 259 = .ok (.goto 7, 3) := by decide +kernel
theorem dX12_begin_262 : decode cX12_begin 262 = .ok (.aload_n 0, 1) := by decide +kernel
theorem dX12_begin_263 : decode cX12_begin 263 = .ok (.getfield 802, 3) := by decide +kernel
theorem dX12_begin_266 : decode cX12_begin 266 = .ok (.putfield 802, 3) := by decide +kernel
theorem dX12_begin_269 : decode cX12_begin 269 = .ok (.aload_n 0, 1) := by decide +kernel
theorem dX12_begin_270 : decode cX12_begin 270 = .ok (.getfield 208, 3) := by decide +kernel
theorem dX12_begin_273 : decode cX12_begin 273 = .ok (.iload 8, 2) := by decide +kernel
theorem dX12_begin_275 : decode cX12_begin 275 = .ok (.iload_n 2, 1) := by decide +kernel
theorem dX12_begin_276 : decode cX12_begin 276 = .ok (.iastore, 1) := by decide +kernel
theorem dX12_begin_277 : decode cX12_begin 277 = .ok (.aload_n 0, 1) := by decide +kernel
theorem dX12_begin_278 : decode cX12_begin 278 = .ok (.getfield 211, 3) := by decide +kernel
theorem dX12_begin_281 : decode cX12_begin 281 = .ok (.iload 8, 2) := by decide +kernel
theorem dX12_begin_283 : decode cX12_begin 283 = .ok (.aload_n 0, 1) := by decide +kernel
theorem dX12_begin_284 : decode cX12_begin 284 = .ok (.getfield 153, 3) := by decide +kernel
theorem dX12_begin_287 : decode cX12_begin 287 = .ok (.iconst 2, 1) := by decide +kernel
theorem dX12_begin_288 : decode cX12_begin 288 = .ok (.iload_n 2, 1) := by decide +kernel
theorem dX12_begin_289 : decode cX12_begin 289 = .ok (.imul, 1) := by decide +kernel
theorem dX12_begin_290 : decode cX12_begin 290 = .ok (.iaload, 1) := by decide +kernel
theorem dX12_begin_291 : decode cX12_begin 291 = .ok (.iastore, 1) := by decide +kernel
theorem dX12_begin_292 : decode cX12_begin 292 = .ok (.aload_n 0, 1) := by decide +kernel
theorem dX12_begin_293 : decode cX12_begin 293 = .ok (.getfield 214, 3) := by decide +kernel
theorem dX12_begin_296 : decode cX12_begin 296 = .ok (.iload 8, 2) := by decide +kernel
theorem dX12_begin_298 : decode cX12_begin 298 = .ok (.aload_n 0, 1) := by decide +kernel
theorem dX12_begin_299 : decode cX12_begin 299 = .ok (.getfield 223, 3) := by decide +kernel
theorem dX12_begin_302 : decode cX12_begin 302 = .ok (.iload_n 1, 1) := by decide +kernel
theorem dX12_begin_303 : decode cX12_begin 303 = .ok (.iaload, 1) := by decide +kernel
theorem dX12_begin_304 : decode cX12_begin 304 = .ok (.iastore, 1) := by decide +kernel
theorem dX12_begin_305 : decode cX12_begin 305 = .ok (.aload_n 0, 1) := by decide +kernel
theorem dX12_begin_306 : decode cX12_begin 306 = .ok (.getfield 217, 3) := by decide +kernel
theorem dX12_begin_309 : decode cX12_begin 309 = .ok (.iload 8, 2) := by decide +kernel
theorem dX12_begin_311 : decode cX12_begin 311 = .ok (.iload 4, 2) := by decide +kernel
theorem dX12_begin_313 : decode cX12_begin 313 = .ok (.iastore, 1) := by decide +kernel
theorem dX12_begin_314 : decode cX12_begin 314 = .ok (.aload_n 0, 1) := by decide +kernel
theorem dX12_begin_315 : decode cX12_begin 315 = .ok (.getfield 220, 3) := by decide +kernel
theorem dX12_begin_318 : decode cX12_begin 318 = .ok (.iload 8, 2) := by decide +kernel
theorem dX12_begin_320 : decode cX12_begin 320 = .ok (.iload 7, 2) := by decide +kernel
theorem dX12_begin_322 : decode cX12_begin 322 = .ok (.iastore, 1) := by decide +kernel
theorem dX12_begin_323 : decode cX12_begin 323 = .ok (.iconst 0, 1) := by decide +kernel
theorem dX12_begin_324 : decode cX12_begin 324 = .ok (.istore 9, 2) := by decide +kernel
theorem dX12_begin_326 : decode cX12_begin 326 = .ok (.iload 9, 2) := by decide +kernel
theorem dX12_begin_328 : decode cX12_begin 328 = .ok (.aload_n 0, 1) := by decide +kernel
theorem dX12_begin_329 : decode cX12_begin 329 = .ok (.iload_n 2, 1) := by decide +kernel
theorem dX12_begin_330 : decode cX12_begin 330 = .ok (.invokevirtual 680, 3) := by decide +kernel
theorem dX12_begin_333 : decode cX12_begin 333 = .ok (.if_icmp .ge 20, 3) := by decide +kernel
theorem dX12_begin_336 : decode cX12_begin 336 = .ok (.aload_n 0, 1) := by decide +kernel
theorem dX12_begin_337 : decode cX12_begin 337 = .ok (.iload_n 1, 1) := by decide +kernel
theorem dX12_begin_338 : decode cX12_begin 338 = .ok (.iload 8, 2) := by decide +kernel
theorem dX12_begin_340 : decode cX12_begin 340 = .ok (.iload 9, 2) := by decide +kernel
theorem dX12_begin_342 : decode cX12_begin 342 = .ok (.iconst 1, 1) := by decide +kernel
theorem dX12_begin_343 : decode cX12_begin 343 = .ok (.iconst 0, 1) := by decide +kernel
theorem dX12_begin_344 : decode cX12_begin 344 = .ok (.invokevirtual 805, 3) := by decide +kernel
theorem dX12_begin_347 : decode cX12_begin 347 = .ok (.iinc 9 1, 3) := by decide +kernel
theorem dX12_begin_350 : decode cX12_begin 350 = .ok (.goto (-24), 3) := by decide +kernel
theorem dX12_begin_353 : decode cX12_begin 353 = .ok (.aload_n 0, 1) := by decide +kernel
theorem dX12_begin_354 : decode cX12_begin 354 = .ok (.getfield 223, 3) := by decide +kernel
theorem dX12_begin_357 : decode cX12_begin 357 = .ok (.iload_n 1, 1) := by decide +kernel
theorem dX12_begin_358 : decode cX12_begin 358 = .ok (.dup2, 1) := by decide +kernel
theorem dX12_begin_359 : decode cX12_begin 359 = .ok (.iaload, 1) := by decide +kernel
theorem dX12_begin_360 : decode cX12_begin 360 = .ok (.aload_n 0, 1) := by decide +kernel
theorem dX12_begin_361 : decode cX12_begin 361 = .ok (.iload_n 2, 1) := by decide +kernel
theorem dX12_begin_362 : decode cX12_begin 362 = .ok (.invokevirtual 680, 3) := by decide +kernel
theorem dX12_begin_365 : decode cX12_begin 365 = .ok (.iadd, 1) := by decide +kernel
theorem dX12_begin_366 : decode cX12_begin 366 = .ok (.iastore, 1) := by decide +kernel
theorem dX12_begin_367 : decode cX12_begin 367 = .ok (.iconst 1, 1) := by decide +kernel
theorem dX12_begin_368 : decode cX12_begin 368 = .ok (.ireturn, 1) := by decide +kernel
theorem dX12_setLocal_0 : decode cX12_setLocal 0 = .ok (.aload_n 0, 1) := by decide +kernel
theorem dX12_setLocal_1 : decode cX12_setLocal 1 = .ok (.getfield 227, 3) := by decide +kernel
theorem dX12_setLocal_4 : decode cX12_setLocal 4 = .ok (.sipush 12600, 3) := by decide +kernel
theorem dX12_setLocal_7 : decode cX12_setLocal 7 = .ok (.iload_n 1, 1) := by decide +kernel
theorem dX12_setLocal_8 : decode cX12_setLocal 8 = .ok (.imul, 1) := by decide +kernel
theorem dX12_setLocal_9 : decode cX12_setLocal 9 = .ok (.aload_n 0, 1) := by decide +kernel
theorem dX12_setLocal_10 : decode cX12_setLocal 10 = .ok (.getfield 214, 3) := by decide +kernel
theorem dX12_setLocal_13 : decode cX12_setLocal 13 = .ok (.iload_n 2, 1) := by decide +kernel
theorem dX12_setLocal_14 : decode cX12_setLocal 14 = .ok (.iaload, 1) := by decide +kernel
theorem dX12_setLocal_15 : decode cX12_setLocal 15 = .ok (.iadd, 1) := by decide +kernel
theorem dX12_setLocal_16 : decode cX12_setLocal 16 = .ok (.iload_n 3, 1) := by decide +kernel
theorem dX12_setLocal_17 : decode cX12_setLocal 17 = .ok (.iadd, 1) := by decide +kernel
theorem dX12_setLocal_18 : decode cX12_setLocal 18 = .ok (.iload 4, 2) := by decide +kernel
theorem dX12_setLocal_20 : decode cX12_setLocal 20 = .ok (.iastore, 1) := by decide +kernel
theorem dX12_setLocal_21 : decode cX12_setLocal 21 = .ok (.aload_n 0, 1) := by decide +kernel
theorem dX12_setLocal_22 : decode cX12_setLocal 22 = .ok (.getfield 230, 3) := by decide +kernel
theorem dX12_setLocal_25 : decode cX12_setLocal 25 = .ok (.sipush 12600, 3) := by decide +kernel
theorem dX12_setLocal_28 : decode cX12_setLocal 28 = .ok (.iload_n 1, 1) := by decide +kernel
theorem dX12_setLocal_29 : decode cX12_setLocal 29 = .ok (.imul, 1) := by decide +kernel
theorem dX12_setLocal_30 : decode cX12_setLocal 30 = .ok (.aload_n 0, 1) := by decide +kernel
theorem dX12_setLocal_31 : decode cX12_setLocal 31 = .ok (.getfield 214, 3) := by decide +kernel
theorem dX12_setLocal_34 : decode cX12_setLocal 34 = .ok (.iload_n 2, 1) := by decide +kernel
theorem dX12_setLocal_35 : decode cX12_setLocal 35 = .ok (.iaload, 1) := by decide +kernel
theorem dX12_setLocal_36 : decode cX12_setLocal 36 = .ok (.iadd, 1) := by decide +kernel
theorem dX12_setLocal_37 : decode cX12_setLocal 37 = .ok (.iload_n 3, 1) := by decide +kernel
theorem dX12_setLocal_38 : decode cX12_setLocal 38 = .ok (.iadd, 1) := by decide +kernel
theorem dX12_setLocal_39 : decode cX12_setLocal 39 = .ok (.iload 5, 2) := by decide +kernel
theorem dX12_setLocal_41 : decode cX12_setLocal 41 = .ok (.iastore, 1) := by decide +kernel
theorem dX12_setLocal_42 : decode cX12_setLocal 42 = .ok (.return_, 1) := by decide +kernel
theorem dX12_newThing_0 : decode cX12_newThing 0 = .ok (.aload_n 0, 1) := by decide +kernel
theorem dX12_newThing_1 : decode cX12_newThing 1 = .ok (.getfield 168, 3) := by decide +kernel
theorem dX12_newThing_4 : decode cX12_newThing 4 = .ok (.aload_n 0, 1) := by decide +kernel
theorem dX12_newThing_5 : decode cX12_newThing 5 = .ok (.getfield 809, 3) := by decide +kernel
theorem dX12_newThing_8 : decode cX12_newThing 8 = .ok (.iload_n 1, 1) := by decide +kernel
theorem dX12_newThing_9 : decode cX12_newThing 9 = .ok (.iastore, 1) := by decide +kernel
theorem dX12_newThing_10 : decode cX12_newThing 10 = .ok (.aload_n 0, 1) := by decide +kernel
theorem dX12_newThing_11 : decode cX12_newThing 11 = .ok (.getfield 171, 3) := by decide +kernel
theorem dX12_newThing_14 : decode cX12_newThing 14 = .ok (.aload_n 0, 1) := by decide +kernel
theorem dX12_newThing_15 : decode cX12_newThing 15 = .ok (.getfield 809, 3) := by decide +kernel
theorem dX12_newThing_18 : decode cX12_newThing 18 = .ok (.aload_n 0, 1) := by decide +kernel
theorem dX12_newThing_19 : decode cX12_newThing 19 = .ok (.getfield 812, 3) := by decide +kernel
theorem dX12_newThing_22 : decode cX12_newThing 22 = .ok (.iastore, 1) := by decide +kernel
theorem dX12_newThing_23 : decode cX12_newThing 23 = .ok (.iconst 0, 1) := by decide +kernel
theorem dX12_newThing_24 : decode cX12_newThing 24 = .ok (.istore_n 3, 1) := by decide +kernel
theorem dX12_newThing_25 : decode cX12_newThing 25 = .ok (.iload_n 3, 1) := by decide +kernel
theorem dX12_newThing_26 : decode cX12_newThing 26 = .ok (.iload_n 2, 1) := by decide +kernel
theorem dX12_newThing_27 : decode cX12_newThing 27 = .ok (.if_icmp .ge 33, 3) := by decide +kernel
theorem dX12_newThing_30 : decode cX12_newThing 30 = .ok (.aload_n 0, 1) := by decide +kernel
theorem dX12_newThing_31 : decode cX12_newThing 31 = .ok (.getfield 175, 3) := by decide +kernel
theorem dX12_newThing_34 : decode cX12_newThing 34 = .ok (.aload_n 0, 1) := by decide +kernel
theorem dX12_newThing_35 : decode cX12_newThing 35 = .ok (.getfield 812, 3) := by decide +kernel
theorem dX12_newThing_38 : decode cX12_newThing 38 = .ok (.iload_n 3, 1) := by decide +kernel
theorem dX12_newThing_39 : decode cX12_newThing 39 = .ok (.iadd, 1) := by decide +kernel
theorem dX12_newThing_40 : decode cX12_newThing 40 = .ok (.iconst 1, 1) := by decide +kernel
theorem dX12_newThing_41 : decode cX12_newThing 41 = .ok (.iastore, 1) := by decide +kernel
theorem dX12_newThing_42 : decode cX12_newThing 42 = .ok (.aload_n 0, 1) := by decide +kernel
theorem dX12_newThing_43 : decode cX12_newThing 43 = .ok (.getfield 178, 3) := by decide +kernel
theorem dX12_newThing_46 : decode cX12_newThing 46 = .ok (.aload_n 0, 1) := by decide +kernel
theorem dX12_newThing_47 : decode cX12_newThing 47 = .ok (.getfield 812, 3) := by decide +kernel
theorem dX12_newThing_50 : decode cX12_newThing 50 = .ok (.iload_n 3, 1) := by decide +kernel
theorem dX12_newThing_51 : decode cX12_newThing 51 = .ok (.iadd, 1) := by decide +kernel
theorem dX12_newThing_52 : decode cX12_newThing 52 = .ok (.iconst 0, 1) := by decide +kernel
theorem dX12_newThing_53 : decode cX12_newThing 53 = .ok (.iastore, 1) := by decide +kernel
theorem dX12_newThing_54 : decode cX12_newThing 54 = .ok (.iinc 3 1, 3) := by decide +kernel
theorem dX12_newThing_57 : decode cX12_newThing 57 = .ok (.goto (-32), 3) := by decide +kernel
theorem dX12_newThing_60 : decode cX12_newThing 60 = .ok (.aload_n 0, 1) := by decide +kernel
theorem dX12_newThing_61 : decode cX12_newThing 61 = .ok (.dup, 1) := by decide +kernel
theorem dX12_newThing_62 : decode cX12_newThing 62 = .ok (.getfield 812, 3) := by decide +kernel
theorem dX12_newThing_65 : decode cX12_newThing 65 = .ok (.iload_n 2, 1) := by decide +kernel
theorem dX12_newThing_66 : decode cX12_newThing 66 = .ok (.iadd, 1) := by decide +kernel
theorem dX12_newThing_67 : decode cX12_newThing 67 = .ok (.putfield 812, 3) := by decide +kernel
theorem dX12_newThing_70 : decode cX12_newThing 70 = .ok (.aload_n 0, 1) := by decide +kernel
theorem dX12_newThing_71 : decode cX12_newThing 71 = .ok (.dup, 1) := by decide +kernel
theorem dX12_newThing_72 : decode cX12_newThing 72 = .ok (.getfield 809, 3) := by decide +kernel
theorem dX12_newThing_75 : decode cX12_newThing 75 = .ok (.iconst 1, 1) := by decide +kernel
theorem dX12_newThing_76 : decode cX12_newThing 76 = .ok (.iadd, 1) := by decide +kernel
theorem dX12_newThing_77 : decode cX12_newThing 77 = .ok (.putfield 809, 3) := by decide +kernel
theorem dX12_newThing_80 : decode cX12_newThing 80 = .ok (.aload_n 0, 1) := by decide +kernel
theorem dX12_newThing_81 : decode cX12_newThing 81 = .ok (.getfield 809, 3) := by decide +kernel
theorem dX12_newThing_84 : decode cX12_newThing 84 = .ok (.iconst 1, 1) := by decide +kernel
theorem dX12_newThing_85 : decode cX12_newThing 85 = .ok (.isub, 1) := by decide +kernel
theorem dX12_newThing_86 : decode cX12_newThing 86 = .ok (.ireturn, 1) := by decide +kernel
theorem dX12_newObject_0 : decode cX12_newObject 0 = .ok (.aload_n 0, 1) := by decide +kernel
theorem dX12_newObject_1 : decode cX12_newObject 1 = .ok (.iload_n 1, 1) := by decide +kernel
theorem dX12_newObject_2 : decode cX12_newObject 2 = .ok (.aload_n 0, 1) := by decide +kernel
theorem dX12_newObject_3 : decode cX12_newObject 3 = .ok (.iload_n 1, 1) := by decide +kernel
theorem dX12_newObject_4 : decode cX12_newObject 4 = .ok (.invokevirtual 501, 3) := by decide +kernel
theorem dX12_newObject_7 : decode cX12_newObject 7 = .ok (.aload_n 0, 1) := by decide +kernel
theorem dX12_newObject_8 : decode cX12_newObject 8 = .ok (.getfield 45, 3) := by decide +kernel
theorem dX12_newObject_11 : decode cX12_newObject 11 = .ok (.iload_n 1, 1) := by decide +kernel
theorem dX12_newObject_12 : decode cX12_newObject 12 = .ok (.iaload, 1) := by decide +kernel
theorem dX12_newObject_13 : decode cX12_newObject 13 = .ok (.iadd, 1) := by decide +kernel
theorem dX12_newObject_14 : decode cX12_newObject 14 = .ok (.invokevirtual 815, 3) := by decide +kernel
theorem dX12_newObject_17 : decode cX12_newObject 17 = .ok (.ireturn, 1) := by decide +kernel
theorem dX12_run_0 : decode cX12_run 0 = .ok (.aload_n 0, 1) := by decide +kernel
theorem dX12_run_1 : decode cX12_run 1 = .ok (.getfield 428, 3) := by decide +kernel
theorem dX12_run_4 : decode cX12_run 4 = .ok (.ifCond .eq 45, 3) := by decide +kernel
theorem dX12_run_7 : decode cX12_run 7 = .ok (.aload_n 0, 1) := by decide +kernel
theorem dX12_run_8 : decode cX12_run 8 = .ok (.iload_n 1, 1) := by decide +kernel
theorem dX12_run_9 : decode cX12_run 9 = .ok (.invokevirtual 709, 3) := by decide +kernel
theorem dX12_run_12 : decode cX12_run 12 = .ok (.ifCond .eq 37, 3) := by decide +kernel
theorem dX12_run_15 : decode cX12_run 15 = .ok (.aload_n 0, 1) := by decide +kernel
theorem dX12_run_16 : decode cX12_run 16 = .ok (.getfield 63, 3) := by decide +kernel
theorem dX12_run_19 : decode cX12_run 19 = .ok (.iload_n 1, 1) := by decide +kernel
theorem dX12_run_20 : decode cX12_run 20 = .ok (.iaload, 1) := by decide +kernel
theorem dX12_run_21 : decode cX12_run 21 = .ok (.ifCond .ne 28, 3) := by decide +kernel
theorem dX12_run_24 : decode cX12_run 24 = .ok (.aload_n 0, 1) := by decide +kernel
theorem dX12_run_25 : decode cX12_run 25 = .ok (.getfield 72, 3) := by decide +kernel
theorem dX12_run_28 : decode cX12_run 28 = .ok (.iload_n 1, 1) := by decide +kernel
theorem dX12_run_29 : decode cX12_run 29 = .ok (.iaload, 1) := by decide +kernel
theorem dX12_run_30 : decode cX12_run 30 = .ok (.ifCond .ne 19, 3) := by decide +kernel
theorem dX12_run_33 : decode cX12_run 33 = .ok (.iload_n 3, 1) := by decide +kernel
theorem dX12_run_34 : decode cX12_run 34 = .ok (.i2l, 1) := by decide +kernel
theorem dX12_run_35 : decode cX12_run 35 = .ok (.lconst 1, 1) := by decide +kernel
theorem dX12_run_36 : decode cX12_run 36 = .ok (.ldc2_w 818, 3) := by decide +kernel
theorem dX12_run_39 : decode cX12_run 39 = .ok (.invokestatic 274, 3) := by decide +kernel
theorem dX12_run_42 : decode cX12_run 42 = .ok (.ifCond .eq 7, 3) := by decide +kernel
theorem dX12_run_45 : decode cX12_run 45 = .ok (.iconst 1, 1) := by decide +kernel
theorem dX12_run_46 : decode cX12_run 46 = .ok (.goto 4, 3) := by decide +kernel
theorem dX12_run_49 : decode cX12_run 49 = .ok (.iconst 0, 1) := by decide +kernel
theorem dX12_run_50 : decode cX12_run 50 = .ok (.istore 5, 2) := by decide +kernel
theorem dX12_run_52 : decode cX12_run 52 = .ok (.aload_n 0, 1) := by decide +kernel
theorem dX12_run_53 : decode cX12_run 53 = .ok (.aload_n 0, 1) := by decide +kernel
theorem dX12_run_54 : decode cX12_run 54 = .ok (.getfield 428, 3) := by decide +kernel
theorem dX12_run_57 : decode cX12_run 57 = .ok (.ifCond .ne 7, 3) := by decide +kernel
theorem dX12_run_60 : decode cX12_run 60 = .ok (.iconst 1, 1) := by decide +kernel
theorem dX12_run_61 : decode cX12_run 61 = .ok (.goto 13, 3) := by decide +kernel
theorem dX12_run_64 : decode cX12_run 64 = .ok (.iload 5, 2) := by decide +kernel
theorem dX12_run_66 : decode cX12_run 66 = .ok (.ifCond .eq 7, 3) := by decide +kernel
theorem dX12_run_69 : decode cX12_run 69 = .ok (.iconst 0, 1) := by decide +kernel
theorem dX12_run_70 : decode cX12_run 70 = .ok (.goto 4, 3) := by decide +kernel
theorem dX12_run_73 : decode cX12_run 73 = .ok (.iconst 2, 1) := by decide +kernel
theorem dX12_run_74 : decode cX12_run 74 = .ok (.putfield 268, 3) := by decide +kernel
theorem dX12_run_77 : decode cX12_run 77 = .ok (.aload_n 0, 1) := by decide +kernel
theorem dX12_run_78 : decode cX12_run 78 = .ok (.getfield 268, 3) := by decide +kernel
theorem dX12_run_81 : decode cX12_run 81 = .ok (.ifCond .eq 5, 3) := by decide +kernel
theorem dX12_run_84 : decode cX12_run 84 = .ok (.iconst 0, 1) := by decide +kernel
theorem dX12_run_85 : decode cX12_run 85 = .ok (.ireturn, 1) := by decide +kernel
theorem dX12_run_86 : decode cX12_run 86 = .ok (.aload_n 0, 1) := by decide +kernel
theorem dX12_run_87 : decode cX12_run 87 = .ok (.iconst 1, 1) := by decide +kernel
theorem dX12_run_88 : decode cX12_run 88 = .ok (.putfield 424, 3) := by decide +kernel
theorem dX12_run_91 : decode cX12_run 91 = .ok (.aload_n 0, 1) := by decide +kernel
theorem dX12_run_92 : decode cX12_run 92 = .ok (.iload 4, 2) := by decide +kernel
theorem dX12_run_94 : decode cX12_run 94 = .ok (.putfield 796, 3) := by decide +kernel
theorem dX12_run_97 : decode cX12_run 97 = .ok (.aload_n 0, 1) := by decide +kernel
theorem dX12_run_98 : decode cX12_run 98 = .ok (.iconst 0, 1) := by decide +kernel
theorem dX12_run_99 : decode cX12_run 99 = .ok (.putfield 781, 3) := by decide +kernel
theorem dX12_run_102 : decode cX12_run 102 = .ok (.aload_n 0, 1) := by decide +kernel
theorem dX12_run_103 : decode cX12_run 103 = .ok (.iload_n 3, 1) := by decide +kernel
theorem dX12_run_104 : decode cX12_run 104 = .ok (.putfield 784, 3) := by decide +kernel
theorem dX12_run_107 : decode cX12_run 107 = .ok (.aload_n 0, 1) := by decide +kernel
theorem dX12_run_108 : decode cX12_run 108 = .ok (.iconst 0, 1) := by decide +kernel
theorem dX12_run_109 : decode cX12_run 109 = .ok (.putfield 765, 3) := by decide +kernel
theorem dX12_run_112 : decode cX12_run 112 = .ok (.aload_n 0, 1) := by decide +kernel
theorem dX12_run_113 : decode cX12_run 113 = .ok (.iconst 0, 1) := by decide +kernel
theorem dX12_run_114 : decode cX12_run 114 = .ok (.putfield 802, 3) := by decide +kernel
theorem dX12_run_117 : decode cX12_run 117 = .ok (.aload_n 0, 1) := by decide +kernel
theorem dX12_run_118 : decode cX12_run 118 = .ok (.iconst 0, 1) := by decide +kernel
theorem dX12_run_119 : decode cX12_run 119 = .ok (.putfield 756, 3) := by decide +kernel
theorem dX12_run_122 : decode cX12_run 122 = .ok (.aload_n 0, 1) := by decide +kernel
theorem dX12_run_123 : decode cX12_run 123 = .ok (.iconst 0, 1) := by decide +kernel
theorem dX12_run_124 : decode cX12_run 124 = .ok (.putfield 809, 3) := by decide +kernel
theorem dX12_run_127 : decode cX12_run 127 = .ok (.aload_n 0, 1) := by decide +kernel
theorem dX12_run_128 : decode cX12_run 128 = .ok (.iconst 0, 1) := by decide +kernel
theorem dX12_run_129 : decode cX12_run 129 = .ok (.putfield 812, 3) := by decide +kernel
theorem dX12_run_132 : decode cX12_run 132 = .ok (.aload_n 0, 1) := by decide +kernel
theorem dX12_run_133 : decode cX12_run 133 = .ok (.iconst 0, 1) := by decide +kernel
theorem dX12_run_134 : decode cX12_run 134 = .ok (.putfield 793, 3) := by decide +kernel
theorem dX12_run_137 : decode cX12_run 137 = .ok (.aload_n 0, 1) := by decide +kernel
theorem dX12_run_138 : decode cX12_run 138 = .ok (.iconst 0, 1) := by decide +kernel
theorem dX12_run_139 : decode cX12_run 139 = .ok (.putfield 820, 3) := by decide +kernel
theorem dX12_run_142 : decode cX12_run 142 = .ok (.aload_n 0, 1) := by decide +kernel
theorem dX12_run_143 : decode cX12_run 143 = .ok (.iconst 0, 1) := by decide +kernel
theorem dX12_run_144 : decode cX12_run 144 = .ok (.putfield 787, 3) := by decide +kernel
theorem dX12_run_147 : decode cX12_run 147 = .ok (.aload_n 0, 1) := by decide +kernel
theorem dX12_run_148 : decode cX12_run 148 = .ok (.iconst 1, 1) := by decide +kernel
theorem dX12_run_149 : decode cX12_run 149 = .ok (.putfield 747, 3) := by decide +kernel
theorem dX12_run_152 : decode cX12_run 152 = .ok (.aload_n 0, 1) := by decide +kernel
theorem dX12_run_153 : decode cX12_run 153 = .ok (.getfield 255, 3) := by decide +kernel
theorem dX12_run_156 : decode cX12_run 156 = .ok (.iconst 0, 1) := by decide +kernel
theorem dX12_run_157 : decode cX12_run 157 = .ok (.iconst 1, 1) := by decide +kernel
theorem dX12_run_158 : decode cX12_run 158 = .ok (.iastore, 1) := by decide +kernel
theorem dX12_run_159 : decode cX12_run 159 = .ok (.aload_n 0, 1) := by decide +kernel
theorem dX12_run_160 : decode cX12_run 160 = .ok (.getfield 259, 3) := by decide +kernel
theorem dX12_run_163 : decode cX12_run 163 = .ok (.iconst 0, 1) := by decide +kernel
theorem dX12_run_164 : decode cX12_run 164 = .ok (.iconst 0, 1) := by decide +kernel
theorem dX12_run_165 : decode cX12_run 165 = .ok (.iastore, 1) := by decide +kernel
theorem dX12_run_166 : decode cX12_run 166 = .ok (.aload_n 0, 1) := by decide +kernel
theorem dX12_run_167 : decode cX12_run 167 = .ok (.aload_n 0, 1) := by decide +kernel
theorem dX12_run_168 : decode cX12_run 168 = .ok (.invokevirtual 823, 3) := by decide +kernel
theorem dX12_run_171 : decode cX12_run 171 = .ok (.putfield 759, 3) := by decide +kernel
theorem dX12_run_174 : decode cX12_run 174 = .ok (.aload_n 0, 1) := by decide +kernel
theorem dX12_run_175 : decode cX12_run 175 = .ok (.iconst 0, 1) := by decide +kernel
theorem dX12_run_176 : decode cX12_run 176 = .ok (.iload_n 1, 1) := by decide +kernel
theorem dX12_run_177 : decode cX12_run 177 = .ok (.iconst 0, 1) := by decide +kernel
theorem dX12_run_178 : decode cX12_run 178 = .ok (.invokevirtual 826, 3) := by decide +kernel
theorem dX12_run_181 : decode cX12_run 181 = .ok (.istore 6, 2) := by decide +kernel
theorem dX12_run_183 : decode cX12_run 183 = .ok (.aload_n 0, 1) := by decide +kernel
theorem dX12_run_184 : decode cX12_run 184 = .ok (.iconst 0, 1) := by decide +kernel
theorem dX12_run_185 : decode cX12_run 185 = .ok (.iconst 0, 1) := by decide +kernel
theorem dX12_run_186 : decode cX12_run 186 = .ok (.iconst 0, 1) := by decide +kernel
theorem dX12_run_187 : decode cX12_run 187 = .ok (.iconst 2, 1) := by decide +kernel
theorem dX12_run_188 : decode cX12_run 188 = .ok (.aload_n 0, 1) := by decide +kernel
theorem dX12_run_189 : decode cX12_run 189 = .ok (.aload_n 0, 1) := by decide +kernel
theorem dX12_run_190 : decode cX12_run 190 = .ok (.getfield 66, 3) := by decide +kernel
theorem dX12_run_193 : decode cX12_run 193 = .ok (.iload_n 1, 1) := by decide +kernel
theorem dX12_run_194 : decode cX12_run 194 = .ok (.iaload, 1) := by decide +kernel
theorem dX12_run_195 : decode cX12_run 195 = .ok (.invokevirtual 830, 3) := by decide +kernel
theorem dX12_run_198 : decode cX12_run 198 = .ok (.invokevirtual 805, 3) := by decide +kernel
theorem dX12_run_201 : decode cX12_run 201 = .ok (.iload_n 2, 1) := by decide +kernel
theorem dX12_run_202 : decode cX12_run 202 = .ok (.istore 7, 2) := by decide +kernel
theorem dX12_run_204 : decode cX12_run 204 = .ok (.aload_n 0, 1) := by decide +kernel
theorem dX12_run_205 : decode cX12_run 205 = .ok (.iconst 1, 1) := by decide +kernel
theorem dX12_run_206 : decode cX12_run 206 = .ok (.putfield 772, 3) := by decide +kernel
theorem dX12_run_209 : decode cX12_run 209 = .ok (.iconst 1, 1) := by decide +kernel
theorem dX12_run_210 : decode cX12_run 210 = .ok (.istore 8, 2) := by decide +kernel
theorem dX12_run_212 : decode cX12_run 212 = .ok (.iload 8, 2) := by decide +kernel
theorem dX12_run_214 : decode cX12_run 214 = .ok (.ifCond .eq 85, 3) := by decide +kernel
theorem dX12_run_217 : decode cX12_run 217 = .ok (.aload_n 0, 1) := by decide +kernel
theorem dX12_run_218 : decode cX12_run 218 = .ok (.getfield 772, 3) := by decide +kernel
theorem dX12_run_221 : decode cX12_run 221 = .ok (.ifCond .eq 10, 3) := by decide +kernel
theorem dX12_run_224 : decode cX12_run 224 = .ok (.aload_n 0, 1) := by decide +kernel
theorem dX12_run_225 : decode cX12_run 225 = .ok (.invokevirtual 833, 3) := by decide +kernel
theorem dX12_run_228 : decode cX12_run 228 = .ok (.goto (-11), 3) := by decide +kernel
theorem dX12_run_231 : decode cX12_run 231 = .ok (.aload_n 0, 1) := by decide +kernel
theorem dX12_run_232 : decode cX12_run 232 = .ok (.invokevirtual 835, 3) := by decide +kernel
theorem dX12_run_235 : decode cX12_run 235 = .ok (.istore 9, 2) := by decide +kernel
theorem dX12_run_237 : decode cX12_run 237 = .ok (.aload_n 0, 1) := by decide +kernel
theorem dX12_run_238 : decode cX12_run 238 = .ok (.getfield 787, 3) := by decide +kernel
theorem dX12_run_241 : decode cX12_run 241 = .ok (.ifCond .ne 12, 3) := by decide +kernel
theorem dX12_run_244 : decode cX12_run 244 = .ok (.iload 9, 2) := by decide +kernel
theorem dX12_run_246 : decode cX12_run 246 = .ok (.ifCond .le 7, 3) := by decide +kernel
theorem dX12_run_249 : decode cX12_run 249 = .ok (.iconst 1, 1) := by decide +kernel
theorem dX12_run_250 : decode cX12_run 250 = .ok (.goto 4, 3) := by decide +kernel
theorem dX12_run_253 : decode cX12_run 253 = .ok (.iconst 0, 1) := by decide +kernel
theorem dX12_run_254 : decode cX12_run 254 = .ok (.istore 8, 2) := by decide +kernel
theorem dX12_run_256 : decode cX12_run 256 = .ok (.iload 8, 2) := by decide +kernel
theorem dX12_run_258 : decode cX12_run 258 = .ok (.ifCond .eq 38, 3) := by decide +kernel
theorem dX12_run_261 : decode cX12_run 261 = .ok (.iconst 0, 1) := by decide +kernel
theorem dX12_run_262 : decode cX12_run 262 = .ok (.istore 10, 2) := by decide +kernel
theorem dX12_run_264 : decode cX12_run 264 = .ok (.iload_n 2, 1) := by decide +kernel
theorem dX12_run_265 : decode cX12_run 265 = .ok (.ifCond .eq 25, 3) := by decide +kernel
theorem dX12_run_268 : decode cX12_run 268 = .ok (.iload 7, 2) := by decide +kernel
theorem dX12_run_270 : decode cX12_run 270 = .ok (.ldc_w 838, 3) := by decide +kernel
theorem dX12_run_273 : decode cX12_run 273 = .ok (.imul, 1) := by decide +kernel
theorem dX12_run_274 : decode cX12_run 274 = .ok (.sipush 12345, 3) := by decide +kernel
theorem dX12_run_277 : decode cX12_run 277 = .ok (.iadd, 1) := by decide +kernel
theorem dX12_run_278 : decode cX12_run 278 = .ok (.istore 7, 2) := by decide +kernel
theorem dX12_run_280 : decode cX12_run 280 = .ok (.iload 7, 2) := by decide +kernel
theorem dX12_run_282 : decode cX12_run 282 = .ok (.bipush 16, 2) := by decide +kernel
theorem dX12_run_284 : decode cX12_run 284 = .ok (.iushr, 1) := by decide +kernel
theorem dX12_run_285 : decode cX12_run 285 = .ok (.iload 9, 2) := by decide +kernel
theorem dX12_run_287 : decode cX12_run 287 = .ok (.irem, 1) := by decide +kernel
theorem dX12_run_288 : decode cX12_run 288 = .ok (.istore 10, 2) := by decide +kernel
theorem dX12_run_290 : decode cX12_run 290 = .ok (.aload_n 0, 1) := by decide +kernel
theorem dX12_run_291 : decode cX12_run 291 = .ok (.iload 10, 2) := by decide +kernel
theorem dX12_run_293 : decode cX12_run 293 = .ok (.invokevirtual 839, 3) := by decide +kernel
theorem dX12_run_296 : decode cX12_run 296 = .ok (.goto (-84), 3) := by decide +kernel
theorem dX12_run_299 : decode cX12_run 299 = .ok (.aload_n 0, 1) := by decide +kernel
theorem dX12_run_300 : decode cX12_run 300 = .ok (.aload_n 0, 1) := by decide +kernel
theorem dX12_run_301 : decode cX12_run 301 = .ok (.getfield 787, 3) := by decide +kernel
theorem dX12_run_304 : decode cX12_run 304 = .ok (.ifCond .eq 7, 3) := by decide +kernel
theorem dX12_run_307 : decode cX12_run 307 = .ok (.iconst 2, 1) := by decide +kernel
theorem dX12_run_308 : decode cX12_run 308 = .ok (.goto 15, 3) := by decide +kernel
theorem dX12_run_311 : decode cX12_run 311 = .ok (.aload_n 0, 1) := by decide +kernel
theorem dX12_run_312 : decode cX12_run 312 = .ok (.invokevirtual 842, 3) := by decide +kernel
theorem dX12_run_315 : decode cX12_run 315 = .ok (.ifCond .le 7, 3) := by decide +kernel
theorem dX12_run_318 : decode cX12_run 318 = .ok (.iconst 1, 1) := by decide +kernel
theorem dX12_run_319 : decode cX12_run 319 = .ok (.goto 4, 3) := by decide +kernel
theorem dX12_run_322 : decode cX12_run 322 = .ok (.iconst 0, 1) := by decide +kernel
theorem dX12_run_323 : decode cX12_run 323 = .ok (.putfield 845, 3) := by decide +kernel
theorem dX12_run_326 : decode cX12_run 326 = .ok (.aload_n 0, 1) := by decide +kernel
theorem dX12_run_327 : decode cX12_run 327 = .ok (.getfield 845, 3) := by decide +kernel
theorem dX12_run_330 : decode cX12_run 330 = .ok (.ireturn, 1) := by decide +kernel
theorem dX12_newThread_0 : decode cX12_newThread 0 = .ok (.aload_n 0, 1) := by decide +kernel
theorem dX12_newThread_1 : decode cX12_newThread 1 = .ok (.getfield 820, 3) := by decide +kernel
theorem dX12_newThread_4 : decode cX12_newThread 4 = .ok (.istore_n 1, 1) := by decide +kernel
theorem dX12_newThread_5 : decode cX12_newThread 5 = .ok (.aload_n 0, 1) := by decide +kernel
theorem dX12_newThread_6 : decode cX12_newThread 6 = .ok (.dup, 1) := by decide +kernel
theorem dX12_newThread_7 : decode cX12_newThread 7 = .ok (.getfield 820, 3) := by decide +kernel
theorem dX12_newThread_10 : decode cX12_newThread 10 = .ok (.iconst 1, 1) := by decide +kernel
theorem dX12_newThread_11 : decode cX12_newThread 11 = .ok (.iadd, 1) := by decide +kernel
theorem dX12_newThread_12 : decode cX12_newThread 12 = .ok (.putfield 820, 3) := by decide +kernel
theorem dX12_newThread_15 : decode cX12_newThread 15 = .ok (.aload_n 0, 1) := by decide +kernel
theorem dX12_newThread_16 : decode cX12_newThread 16 = .ok (.getfield 190, 3) := by decide +kernel
theorem dX12_newThread_19 : decode cX12_newThread 19 = .ok (.iload_n 1, 1) := by decide +kernel
theorem dX12_newThread_20 : decode cX12_newThread 20 = .ok (.iconst 0, 1) := by decide +kernel
theorem dX12_newThread_21 : decode cX12_newThread 21 = .ok (.iastore, 1) := by decide +kernel
theorem dX12_newThread_22 : decode cX12_newThread 22 = .ok (.aload_n 0, 1) := by decide +kernel
theorem dX12_newThread_23 : decode cX12_newThread 23 = .ok (.getfield 193, 3) := by decide +kernel
theorem dX12_newThread_26 : decode cX12_newThread 26 = .ok (.iload_n 1, 1) := by decide +kernel
theorem dX12_newThread_27 : decode cX12_newThread 27 = .ok (.iconst (-1), 1) := by decide +kernel
theorem dX12_newThread_28 : decode cX12_newThread 28 = .ok (.iastore, 1) := by decide +kernel
theorem dX12_newThread_29 : decode cX12_newThread 29 = .ok (.aload_n 0, 1) := by decide +kernel
theorem dX12_newThread_30 : decode cX12_newThread 30 = .ok (.getfield 196, 3) := by decide +kernel
theorem dX12_newThread_33 : decode cX12_newThread 33 = .ok (.iload_n 1, 1) := by decide +kernel
theorem dX12_newThread_34 : decode cX12_newThread 34 = .ok (.iconst 0, 1) := by decide +kernel
theorem dX12_newThread_35 : decode cX12_newThread 35 = .ok (.iastore, 1) := by decide +kernel
theorem dX12_newThread_36 : decode cX12_newThread 36 = .ok (.aload_n 0, 1) := by decide +kernel
theorem dX12_newThread_37 : decode cX12_newThread 37 = .ok (.getfield 202, 3) := by decide +kernel
theorem dX12_newThread_40 : decode cX12_newThread 40 = .ok (.iload_n 1, 1) := by decide +kernel
theorem dX12_newThread_41 : decode cX12_newThread 41 = .ok (.iconst 0, 1) := by decide +kernel
theorem dX12_newThread_42 : decode cX12_newThread 42 = .ok (.iastore, 1) := by decide +kernel
theorem dX12_newThread_43 : decode cX12_newThread 43 = .ok (.aload_n 0, 1) := by decide +kernel
theorem dX12_newThread_44 : decode cX12_newThread 44 = .ok (.getfield 199, 3) := by decide +kernel
theorem dX12_newThread_47 : decode cX12_newThread 47 = .ok (.iload_n 1, 1) := by decide +kernel
theorem dX12_newThread_48 : decode cX12_newThread 48 = .ok (.iconst (-1), 1) := by decide +kernel
theorem dX12_newThread_49 : decode cX12_newThread 49 = .ok (.iastore, 1) := by decide +kernel
theorem dX12_newThread_50 : decode cX12_newThread 50 = .ok (.aload_n 0, 1) := by decide +kernel
theorem dX12_newThread_51 : decode cX12_newThread 51 = .ok (.getfield 205, 3) := by decide +kernel
theorem dX12_newThread_54 : decode cX12_newThread 54 = .ok (.iload_n 1, 1) := by decide +kernel
theorem dX12_newThread_55 : decode cX12_newThread 55 = .ok (.iconst 0, 1) := by decide +kernel
theorem dX12_newThread_56 : decode cX12_newThread 56 = .ok (.iastore, 1) := by decide +kernel
theorem dX12_newThread_57 : decode cX12_newThread 57 = .ok (.aload_n 0, 1) := by decide +kernel
theorem dX12_newThread_58 : decode cX12_newThread 58 = .ok (.getfield 223, 3) := by decide +kernel
theorem dX12_newThread_61 : decode cX12_newThread 61 = .ok (.iload_n 1, 1) := by decide +kernel
theorem dX12_newThread_62 : decode cX12_newThread 62 = .ok (.iconst 0, 1) := by decide +kernel
theorem dX12_newThread_63 : decode cX12_newThread 63 = .ok (.iastore, 1) := by decide +kernel
theorem dX12_newThread_64 : decode cX12_newThread 64 = .ok (.aload_n 0, 1) := by decide +kernel
theorem dX12_newThread_65 : decode cX12_newThread 65 = .ok (.getfield 233, 3) := by decide +kernel
theorem dX12_newThread_68 : decode cX12_newThread 68 = .ok (.iload_n 1, 1) := by decide +kernel
theorem dX12_newThread_69 : decode cX12_newThread 69 = .ok (.iconst 0, 1) := by decide +kernel
theorem dX12_newThread_70 : decode cX12_newThread 70 = .ok (.iastore, 1) := by decide +kernel
theorem dX12_newThread_71 : decode cX12_newThread 71 = .ok (.aload_n 0, 1) := by decide +kernel
theorem dX12_newThread_72 : decode cX12_newThread 72 = .ok (.getfield 243, 3) := by decide +kernel
theorem dX12_newThread_75 : decode cX12_newThread 75 = .ok (.iload_n 1, 1) := by decide +kernel
theorem dX12_newThread_76 : decode cX12_newThread 76 = .ok (.iconst 0, 1) := by decide +kernel
theorem dX12_newThread_77 : decode cX12_newThread 77 = .ok (.iastore, 1) := by decide +kernel
theorem dX12_newThread_78 : decode cX12_newThread 78 = .ok (.iload_n 1, 1) := by decide +kernel
theorem dX12_newThread_79 : decode cX12_newThread 79 = .ok (.ireturn, 1) := by decide +kernel
theorem dX12_canGo_0 : decode cX12_canGo 0 = .ok (.aload_n 0, 1) := by decide +kernel
theorem dX12_canGo_1 : decode cX12_canGo 1 = .ok (.getfield 190, 3) := by decide +kernel
theorem dX12_canGo_4 : decode cX12_canGo 4 = .ok (.iload_n 1, 1) := by decide +kernel
theorem dX12_canGo_5 : decode cX12_canGo 5 = .ok (.iaload, 1) := by decide +kernel
theorem dX12_canGo_6 : decode cX12_canGo 6 = .ok (.ifCond .ne 31, 3) := by decide +kernel
theorem dX12_canGo_9 : decode cX12_canGo 9 = .ok (.aload_n 0, 1) := by decide +kernel
theorem dX12_canGo_10 : decode cX12_canGo 10 = .ok (.getfield 193, 3) := by decide +kernel
theorem dX12_canGo_13 : decode cX12_canGo 13 = .ok (.iload_n 1, 1) := by decide +kernel
theorem dX12_canGo_14 : decode cX12_canGo 14 = .ok (.iaload, 1) := by decide +kernel
theorem dX12_canGo_15 : decode cX12_canGo 15 = .ok (.iconst (-1), 1) := by decide +kernel
theorem dX12_canGo_16 : decode cX12_canGo 16 = .ok (.if_icmp .eq 17, 3) := by decide +kernel
theorem dX12_canGo_19 : decode cX12_canGo 19 = .ok (.aload_n 0, 1) := by decide +kernel
theorem dX12_canGo_20 : decode cX12_canGo 20 = .ok (.getfield 190, 3) := by decide +kernel
theorem dX12_canGo_23 : decode cX12_canGo 23 = .ok (.aload_n 0, 1) := by decide +kernel
theorem dX12_canGo_24 : decode cX12_canGo 24 = .ok (.getfield 193, 3) := by decide +kernel
theorem dX12_canGo_27 : decode cX12_canGo 27 = .ok (.iload_n 1, 1) := by decide +kernel
theorem dX12_canGo_28 : decode cX12_canGo 28 = .ok (.iaload, 1) := by decide +kernel
theorem dX12_canGo_29 : decode cX12_canGo 29 = .ok (.iaload, 1) := by decide +kernel
theorem dX12_canGo_30 : decode cX12_canGo 30 = .ok (.ifCond .eq 7, 3) := by decide +kernel
theorem dX12_canGo_33 : decode cX12_canGo 33 = .ok (.iconst 1, 1) := by decide +kernel
theorem dX12_canGo_34 : decode cX12_canGo 34 = .ok (.goto 4, 3) := by decide +kernel
theorem dX12_canGo_37 : decode cX12_canGo 37 = .ok (.iconst 0, 1) := by decide +kernel
theorem dX12_canGo_38 : decode cX12_canGo 38 = .ok (.ireturn, 1) := by decide +kernel
theorem dX12_ready_0 : decode cX12_ready 0 = .ok (.iconst 0, 1) := by decide +kernel
theorem dX12_ready_1 : decode cX12_ready 1 = .ok (.istore_n 1, 1) := by decide +kernel
theorem dX12_ready_2 : decode cX12_ready 2 = .ok (.iconst 0, 1) := by decide +kernel
theorem dX12_ready_3 : decode cX12_ready 3 = .ok (.istore_n 2, 1) := by decide +kernel
theorem dX12_ready_4 : decode cX12_ready 4 = .ok (.iload_n 2, 1) := by decide +kernel
theorem dX12_ready_5 : decode cX12_ready 5 = .ok (.aload_n 0, 1) := by decide +kernel
theorem dX12_ready_6 : decode cX12_ready 6 = .ok (.getfield 820, 3) := by decide +kernel
theorem dX12_ready_9 : decode cX12_ready 9 = .ok (.if_icmp .ge 25, 3) := by decide +kernel
theorem dX12_ready_12 : decode cX12_ready 12 = .ok (.iload_n 1, 1) := by decide +kernel
theorem dX12_ready_13 : decode cX12_ready 13 = .ok (.aload_n 0, 1) := by decide +kernel
theorem dX12_ready_14 : decode cX12_ready 14 = .ok (.iload_n 2, 1) := by decide +kernel
theorem dX12_ready_15 : decode cX12_ready 15 = .ok (.invokevirtual 848, 3) := by decide +kernel
theorem dX12_ready_18 : decode cX12_ready 18 = .ok (.ifCond .eq 7, 3) := by decide +kernel
theorem dX12_ready_21 : decode cX12_ready 21 = .ok (.iconst 1, 1) := by decide +kernel
theorem dX12_ready_22 : decode cX12_ready 22 = .ok (.goto 4, 3) := by decide +kernel
theorem dX12_ready_25 : decode cX12_ready 25 = .ok (.iconst 0, 1) := by decide +kernel
theorem dX12_ready_26 : decode cX12_ready 26 = .ok (.iadd, 1) := by decide +kernel
theorem dX12_ready_27 : decode cX12_ready 27 = .ok (.istore_n 1, 1) := by decide +kernel
theorem dX12_ready_28 : decode cX12_ready 28 = .ok (.iinc 2 1, 3) := by decide +kernel
theorem dX12_ready_31 : decode cX12_ready 31 = .ok (.goto (-27), 3) := by decide +kernel
theorem dX12_ready_34 : decode cX12_ready 34 = .ok (.iload_n 1, 1) := by decide +kernel
theorem dX12_ready_35 : decode cX12_ready 35 = .ok (.ireturn, 1) := by decide +kernel
theorem dX12_going_0 : decode cX12_going 0 = .ok (.iconst 0, 1) := by decide +kernel
theorem dX12_going_1 : decode cX12_going 1 = .ok (.istore_n 1, 1) := by decide +kernel
theorem dX12_going_2 : decode cX12_going 2 = .ok (.iconst 0, 1) := by decide +kernel
theorem dX12_going_3 : decode cX12_going 3 = .ok (.istore_n 2, 1) := by decide +kernel
theorem dX12_going_4 : decode cX12_going 4 = .ok (.iload_n 2, 1) := by decide +kernel
theorem dX12_going_5 : decode cX12_going 5 = .ok (.aload_n 0, 1) := by decide +kernel
theorem dX12_going_6 : decode cX12_going 6 = .ok (.getfield 820, 3) := by decide +kernel
theorem dX12_going_9 : decode cX12_going 9 = .ok (.if_icmp .ge 26, 3) := by decide +kernel
theorem dX12_going_12 : decode cX12_going 12 = .ok (.iload_n 1, 1) := by decide +kernel
theorem dX12_going_13 : decode cX12_going 13 = .ok (.aload_n 0, 1) := by decide +kernel
theorem dX12_going_14 : decode cX12_going 14 = .ok (.getfield 190, 3) := by decide +kernel
theorem dX12_going_17 : decode cX12_going 17 = .ok (.iload_n 2, 1) := by decide +kernel
theorem dX12_going_18 : decode cX12_going 18 = .ok (.iaload, 1) := by decide +kernel
theorem dX12_going_19 : decode cX12_going 19 = .ok (.ifCond .ne 7, 3) := by decide +kernel
theorem dX12_going_22 : decode cX12_going 22 = .ok (.iconst 1, 1) := by decide +kernel
theorem dX12_going_23 : decode cX12_going 23 = .ok (.goto 4, 3) := by decide +kernel
theorem dX12_going_26 : decode cX12_going 26 = .ok (.iconst 0, 1) := by decide +kernel
theorem dX12_going_27 : decode cX12_going 27 = .ok (.iadd, 1) := by decide +kernel
theorem dX12_going_28 : decode cX12_going 28 = .ok (.istore_n 1, 1) := by decide +kernel
theorem dX12_going_29 : decode cX12_going 29 = .ok (.iinc 2 1, 3) := by decide +kernel
theorem dX12_going_32 : decode cX12_going 32 = .ok (.goto (-28), 3) := by decide +kernel
theorem dX12_going_35 : decode cX12_going 35 = .ok (.iload_n 1, 1) := by decide +kernel
theorem dX12_going_36 : decode cX12_going 36 = .ok (.ireturn, 1) := by decide +kernel
theorem dX12_choose_0 : decode cX12_choose 0 = .ok (.iload_n 1, 1) := by decide +kernel
theorem dX12_choose_1 : decode cX12_choose 1 = .ok (.istore_n 2, 1) := by decide +kernel
theorem dX12_choose_2 : decode cX12_choose 2 = .ok (.iconst 0, 1) := by decide +kernel
theorem dX12_choose_3 : decode cX12_choose 3 = .ok (.istore_n 3, 1) := by decide +kernel
theorem dX12_choose_4 : decode cX12_choose 4 = .ok (.aload_n 0, 1) := by decide +kernel
theorem dX12_choose_5 : decode cX12_choose 5 = .ok (.iload_n 3, 1) := by decide +kernel
theorem dX12_choose_6 : decode cX12_choose 6 = .ok (.invokevirtual 848, 3) := by decide +kernel
theorem dX12_choose_9 : decode cX12_choose 9 = .ok (.ifCond .eq 7, 3) := by decide +kernel
theorem dX12_choose_12 : decode cX12_choose 12 = .ok (.iload_n 2, 1) := by decide +kernel
theorem dX12_choose_13 : decode cX12_choose 13 = .ok (.ifCond .le 25, 3) := by decide +kernel
theorem dX12_choose_16 : decode cX12_choose 16 = .ok (.iload_n 2, 1) := by decide +kernel
theorem dX12_choose_17 : decode cX12_choose 17 = .ok (.aload_n 0, 1) := by decide +kernel
theorem dX12_choose_18 : decode cX12_choose 18 = .ok (.iload_n 3, 1) := by decide +kernel
theorem dX12_choose_19 : decode cX12_choose 19 = .ok (.invokevirtual 848, 3) := by decide +kernel
theorem dX12_choose_22 : decode cX12_choose 22 = .ok (.ifCond .eq 7, 3) := by decide +kernel
theorem dX12_choose_25 : decode cX12_choose 25 = .ok (.iconst 1, 1) := by decide +kernel
theorem dX12_choose_26 : decode cX12_choose 26 = .ok (.goto 4, 3) := by decide +kernel
theorem dX12_choose_29 : decode cX12_choose 29 = .ok (.iconst 0, 1) := by decide +kernel
theorem dX12_choose_30 : decode cX12_choose 30 = .ok (.isub, 1) := by decide +kernel
theorem dX12_choose_31 : decode cX12_choose 31 = .ok (.istore_n 2, 1) := by decide +kernel
theorem dX12_choose_32 : decode cX12_choose 32 = .ok (.iinc 3 1, 3) := by decide +kernel
theorem dX12_choose_35 : decode cX12_choose 35 = .ok (.goto (-31), 3) := by decide +kernel
theorem dX12_choose_38 : decode cX12_choose 38 = .ok (.aload_n 0, 1) := by decide +kernel
theorem dX12_choose_39 : decode cX12_choose 39 = .ok (.iload_n 3, 1) := by decide +kernel
theorem dX12_choose_40 : decode cX12_choose 40 = .ok (.putfield 759, 3) := by decide +kernel
theorem dX12_choose_43 : decode cX12_choose 43 = .ok (.aload_n 0, 1) := by decide +kernel
theorem dX12_choose_44 : decode cX12_choose 44 = .ok (.iconst 1, 1) := by decide +kernel
theorem dX12_choose_45 : decode cX12_choose 45 = .ok (.putfield 772, 3) := by decide +kernel
theorem dX12_choose_48 : decode cX12_choose 48 = .ok (.aload_n 0, 1) := by decide +kernel
theorem dX12_choose_49 : decode cX12_choose 49 = .ok (.getfield 193, 3) := by decide +kernel
theorem dX12_choose_52 : decode cX12_choose 52 = .ok (.iload_n 3, 1) := by decide +kernel
theorem dX12_choose_53 : decode cX12_choose 53 = .ok (.iaload, 1) := by decide +kernel
theorem dX12_choose_54 : decode cX12_choose 54 = .ok (.istore 4, 2) := by decide +kernel
theorem dX12_choose_56 : decode cX12_choose 56 = .ok (.iload 4, 2) := by decide +kernel
theorem dX12_choose_58 : decode cX12_choose 58 = .ok (.iconst (-1), 1) := by decide +kernel
theorem dX12_choose_59 : decode cX12_choose 59 = .ok (.if_icmp .eq 16, 3) := by decide +kernel
theorem dX12_choose_62 : decode cX12_choose 62 = .ok (.aload_n 0, 1) := by decide +kernel
theorem dX12_choose_63 : decode cX12_choose 63 = .ok (.getfield 193, 3) := by decide +kernel
theorem dX12_choose_66 : decode cX12_choose 66 = .ok (.iload_n 3, 1) := by decide +kernel
theorem dX12_choose_67 : decode cX12_choose 67 = .ok (.iconst (-1), 1) := by decide +kernel
theorem dX12_choose_68 : decode cX12_choose 68 = .ok (.iastore, 1) := by decide +kernel
theorem dX12_choose_69 : decode cX12_choose 69 = .ok (.aload_n 0, 1) := by decide +kernel
theorem dX12_choose_70 : decode cX12_choose 70 = .ok (.iload 4, 2) := by decide +kernel
theorem dX12_choose_72 : decode cX12_choose 72 = .ok (.invokevirtual 851, 3) := by decide +kernel
theorem dX12_choose_75 : decode cX12_choose 75 = .ok (.return_, 1) := by decide +kernel
theorem dX12_hasWaited_0 : decode cX12_hasWaited 0 = .ok (.aload_n 0, 1) := by decide +kernel
theorem dX12_hasWaited_1 : decode cX12_hasWaited 1 = .ok (.getfield 190, 3) := by decide +kernel
theorem dX12_hasWaited_4 : decode cX12_hasWaited 4 = .ok (.iload_n 1, 1) := by decide +kernel
theorem dX12_hasWaited_5 : decode cX12_hasWaited 5 = .ok (.iaload, 1) := by decide +kernel
theorem dX12_hasWaited_6 : decode cX12_hasWaited 6 = .ok (.iconst 1, 1) := by decide +kernel
theorem dX12_hasWaited_7 : decode cX12_hasWaited 7 = .ok (.if_icmp .ne 22, 3) := by decide +kernel
theorem dX12_hasWaited_10 : decode cX12_hasWaited 10 = .ok (.aload_n 0, 1) := by decide +kernel
theorem dX12_hasWaited_11 : decode cX12_hasWaited 11 = .ok (.aload_n 0, 1) := by decide +kernel
theorem dX12_hasWaited_12 : decode cX12_hasWaited 12 = .ok (.getfield 199, 3) := by decide +kernel
theorem dX12_hasWaited_15 : decode cX12_hasWaited 15 = .ok (.iload_n 1, 1) := by decide +kernel
theorem dX12_hasWaited_16 : decode cX12_hasWaited 16 = .ok (.iaload, 1) := by decide +kernel
theorem dX12_hasWaited_17 : decode cX12_hasWaited 17 = .ok (.aload_n 0, 1) := by decide +kernel
theorem dX12_hasWaited_18 : decode cX12_hasWaited 18 = .ok (.getfield 202, 3) := by decide +kernel
theorem dX12_hasWaited_21 : decode cX12_hasWaited 21 = .ok (.iload_n 1, 1) := by decide +kernel
theorem dX12_hasWaited_22 : decode cX12_hasWaited 22 = .ok (.iaload, 1) := by decide +kernel
theorem dX12_hasWaited_23 : decode cX12_hasWaited 23 = .ok (.invokevirtual 778, 3) := by decide +kernel
theorem dX12_hasWaited_26 : decode cX12_hasWaited 26 = .ok (.goto 13, 3) := by decide +kernel
theorem dX12_hasWaited_29 : decode cX12_hasWaited 29 = .ok (.aload_n 0, 1) := by decide +kernel
theorem dX12_hasWaited_30 : decode cX12_hasWaited 30 = .ok (.aload_n 0, 1) := by decide +kernel
theorem dX12_hasWaited_31 : decode cX12_hasWaited 31 = .ok (.getfield 202, 3) := by decide +kernel
theorem dX12_hasWaited_34 : decode cX12_hasWaited 34 = .ok (.iload_n 1, 1) := by decide +kernel
theorem dX12_hasWaited_35 : decode cX12_hasWaited 35 = .ok (.iaload, 1) := by decide +kernel
theorem dX12_hasWaited_36 : decode cX12_hasWaited 36 = .ok (.invokevirtual 790, 3) := by decide +kernel
theorem dX12_hasWaited_39 : decode cX12_hasWaited 39 = .ok (.return_, 1) := by decide +kernel
theorem dX12_wordAt_0 : decode cX12_wordAt 0 = .ok (.aload_n 0, 1) := by decide +kernel
theorem dX12_wordAt_1 : decode cX12_wordAt 1 = .ok (.getfield 149, 3) := by decide +kernel
theorem dX12_wordAt_4 : decode cX12_wordAt 4 = .ok (.iload_n 1, 1) := by decide +kernel
theorem dX12_wordAt_5 : decode cX12_wordAt 5 = .ok (.baload, 1) := by decide +kernel
theorem dX12_wordAt_6 : decode cX12_wordAt 6 = .ok (.sipush 255, 3) := by decide +kernel
theorem dX12_wordAt_9 : decode cX12_wordAt 9 = .ok (.iand, 1) := by decide +kernel
theorem dX12_wordAt_10 : decode cX12_wordAt 10 = .ok (.bipush 8, 2) := by decide +kernel
theorem dX12_wordAt_12 : decode cX12_wordAt 12 = .ok (.ishl, 1) := by decide +kernel
theorem dX12_wordAt_13 : decode cX12_wordAt 13 = .ok (.aload_n 0, 1) := by decide +kernel
theorem dX12_wordAt_14 : decode cX12_wordAt 14 = .ok (.getfield 149, 3) := by decide +kernel
theorem dX12_wordAt_17 : decode cX12_wordAt 17 = .ok (.iload_n 1, 1) := by decide +kernel
theorem dX12_wordAt_18 : decode cX12_wordAt 18 = .ok (.iconst 1, 1) := by decide +kernel
theorem dX12_wordAt_19 : decode cX12_wordAt 19 = .ok (.iadd, 1) := by decide +kernel
theorem dX12_wordAt_20 : decode cX12_wordAt 20 = .ok (.baload, 1) := by decide +kernel
theorem dX12_wordAt_21 : decode cX12_wordAt 21 = .ok (.sipush 255, 3) := by decide +kernel
theorem dX12_wordAt_24 : decode cX12_wordAt 24 = .ok (.iand, 1) := by decide +kernel
theorem dX12_wordAt_25 : decode cX12_wordAt 25 = .ok (.ior, 1) := by decide +kernel
theorem dX12_wordAt_26 : decode cX12_wordAt 26 = .ok (.ireturn, 1) := by decide +kernel
theorem dX12_step_0 : decode cX12_step 0 = .ok (.aload_n 0, 1) := by decide +kernel
theorem dX12_step_1 : decode cX12_step 1 = .ok (.invokevirtual 775, 3) := by decide +kernel
theorem dX12_step_4 : decode cX12_step 4 = .ok (.istore_n 1, 1) := by decide +kernel
theorem dX12_step_5 : decode cX12_step 5 = .ok (.aload_n 0, 1) := by decide +kernel
theorem dX12_step_6 : decode cX12_step 6 = .ok (.getfield 211, 3) := by decide +kernel
theorem dX12_step_9 : decode cX12_step 9 = .ok (.iload_n 1, 1) := by decide +kernel
theorem dX12_step_10 : decode cX12_step 10 = .ok (.iaload, 1) := by decide +kernel
theorem dX12_step_11 : decode cX12_step 11 = .ok (.istore_n 2, 1) := by decide +kernel
theorem dX12_step_12 : decode cX12_step 12 = .ok (.aload_n 0, 1) := by decide +kernel
theorem dX12_step_13 : decode cX12_step 13 = .ok (.getfield 149, 3) := by decide +kernel
theorem dX12_step_16 : decode cX12_step 16 = .ok (.iload_n 2, 1) := by decide +kernel
theorem dX12_step_17 : decode cX12_step 17 = .ok (.baload, 1) := by decide +kernel
theorem dX12_step_18 : decode cX12_step 18 = .ok (.sipush 255, 3) := by decide +kernel
theorem dX12_step_21 : decode cX12_step 21 = .ok (.iand, 1) := by decide +kernel
theorem dX12_step_22 : decode cX12_step 22 = .ok (.istore_n 3, 1) := by decide +kernel
theorem dX12_step_23 : decode cX12_step 23 = .ok (.aload_n 0, 1) := by decide +kernel
theorem dX12_step_24 : decode cX12_step 24 = .ok (.iload_n 2, 1) := by decide +kernel
theorem dX12_step_25 : decode cX12_step 25 = .ok (.iconst 1, 1) := by decide +kernel
theorem dX12_step_26 : decode cX12_step 26 = .ok (.iadd, 1) := by decide +kernel
theorem dX12_step_27 : decode cX12_step 27 = .ok (.invokevirtual 854, 3) := by decide +kernel
theorem dX12_step_30 : decode cX12_step 30 = .ok (.istore 4, 2) := by decide +kernel
theorem dX12_step_32 : decode cX12_step 32 = .ok (.iload_n 3, 1) := by decide +kernel
theorem dX12_step_33 : decode cX12_step 33 = .ok (.tableswitch 372 0 28 #[131, 156, 175, 238, 372, 372, 372, 372, 372, 372, 372, 372, 372, 372, 372, 372, 274, 293, 318, 328, 338, 372, 372, 372, 372, 372, 372, 372, 364], 131) := by decide +kernel
theorem dX12_step_164 : decode cX12_step 164 = .ok (.aload_n 0, 1) := by decide +kernel
theorem dX12_step_165 : decode cX12_step 165 = .ok (.getfield 211, 3) := by decide +kernel
theorem dX12_step_168 : decode cX12_step 168 = .ok (.iload_n 1, 1) := by decide +kernel
theorem dX12_step_169 : decode cX12_step 169 = .ok (.dup2, 1) := by decide +kernel
theorem dX12_step_170 : decode cX12_step 170 = .ok (.iaload, 1) := by decide +kernel
theorem dX12_step_171 : decode cX12_step 171 = .ok (.iconst 3, 1) := by decide +kernel
theorem dX12_step_172 : decode cX12_step 172 = .ok (.iadd, 1) := by decide +kernel
theorem dX12_step_173 : decode cX12_step 173 = .ok (.iastore, 1) := by decide +kernel
theorem dX12_step_174 : decode cX12_step 174 = .ok (.aload_n 0, 1) := by decide +kernel
theorem dX12_step_175 : decode cX12_step 175 = .ok (.iconst 0, 1) := by decide +kernel
theorem dX12_step_176 : decode cX12_step 176 = .ok (.aload_n 0, 1) := by decide +kernel
theorem dX12_step_177 : decode cX12_step 177 = .ok (.getfield 121, 3) := by decide +kernel
theorem dX12_step_180 : decode cX12_step 180 = .ok (.iload 4, 2) := by decide +kernel
theorem dX12_step_182 : decode cX12_step 182 = .ok (.iaload, 1) := by decide +kernel
theorem dX12_step_183 : decode cX12_step 183 = .ok (.invokevirtual 778, 3) := by decide +kernel
theorem dX12_step_186 : decode cX12_step 186 = .ok (.goto 228, 3) := by decide +kernel
theorem dX12_step_189 : decode cX12_step 189 = .ok (.aload_n 0, 1) := by decide +kernel
theorem dX12_step_190 : decode cX12_step 190 = .ok (.getfield 211, 3) := by decide +kernel
theorem dX12_step_193 : decode cX12_step 193 = .ok (.iload_n 1, 1) := by decide +kernel
theorem dX12_step_194 : decode cX12_step 194 = .ok (.dup2, 1) := by decide +kernel
theorem dX12_step_195 : decode cX12_step 195 = .ok (.iaload, 1) := by decide +kernel
theorem dX12_step_196 : decode cX12_step 196 = .ok (.iconst 1, 1) := by decide +kernel
theorem dX12_step_197 : decode cX12_step 197 = .ok (.iadd, 1) := by decide +kernel
theorem dX12_step_198 : decode cX12_step 198 = .ok (.iastore, 1) := by decide +kernel
theorem dX12_step_199 : decode cX12_step 199 = .ok (.aload_n 0, 1) := by decide +kernel
theorem dX12_step_200 : decode cX12_step 200 = .ok (.iconst 1, 1) := by decide +kernel
theorem dX12_step_201 : decode cX12_step 201 = .ok (.iconst 0, 1) := by decide +kernel
theorem dX12_step_202 : decode cX12_step 202 = .ok (.invokevirtual 778, 3) := by decide +kernel
theorem dX12_step_205 : decode cX12_step 205 = .ok (.goto 209, 3) := by decide +kernel
theorem dX12_step_208 : decode cX12_step 208 = .ok (.aload_n 0, 1) := by decide +kernel
theorem dX12_step_209 : decode cX12_step 209 = .ok (.getfield 211, 3) := by decide +kernel
theorem dX12_step_212 : decode cX12_step 212 = .ok (.iload_n 1, 1) := by decide +kernel
theorem dX12_step_213 : decode cX12_step 213 = .ok (.dup2, 1) := by decide +kernel
theorem dX12_step_214 : decode cX12_step 214 = .ok (.iaload, 1) := by decide +kernel
theorem dX12_step_215 : decode cX12_step 215 = .ok (.iconst 3, 1) := by decide +kernel
theorem dX12_step_216 : decode cX12_step 216 = .ok (.iadd, 1) := by decide +kernel
theorem dX12_step_217 : decode cX12_step 217 = .ok (.iastore, 1) := by decide +kernel
theorem dX12_step_218 : decode cX12_step 218 = .ok (.aload_n 0, 1) := by decide +kernel
theorem dX12_step_219 : decode cX12_step 219 = .ok (.aload_n 0, 1) := by decide +kernel
theorem dX12_step_220 : decode cX12_step 220 = .ok (.getfield 227, 3) := by decide +kernel
theorem dX12_step_223 : decode cX12_step 223 = .ok (.sipush 12600, 3) := by decide +kernel
theorem dX12_step_226 : decode cX12_step 226 = .ok (.aload_n 0, 1) := by decide +kernel
theorem dX12_step_227 : decode cX12_step 227 = .ok (.getfield 759, 3) := by decide +kernel
theorem dX12_step_230 : decode cX12_step 230 = .ok (.imul, 1) := by decide +kernel
theorem dX12_step_231 : decode cX12_step 231 = .ok (.aload_n 0, 1) := by decide +kernel
theorem dX12_step_232 : decode cX12_step 232 = .ok (.getfield 214, 3) := by decide +kernel
theorem dX12_step_235 : decode cX12_step 235 = .ok (.iload_n 1, 1) := by decide +kernel
theorem dX12_step_236 : decode cX12_step 236 = .ok (.iaload, 1) := by decide +kernel
theorem dX12_step_237 : decode cX12_step 237 = .ok (.iadd, 1) := by decide +kernel
theorem dX12_step_238 : decode cX12_step 238 = .ok (.iload 4, 2) := by decide +kernel
theorem dX12_step_240 : decode cX12_step 240 = .ok (.iadd, 1) := by decide +kernel
theorem dX12_step_241 : decode cX12_step 241 = .ok (.iaload, 1) := by decide +kernel
theorem dX12_step_242 : decode cX12_step 242 = .ok (.aload_n 0, 1) := by decide +kernel
theorem dX12_step_243 : decode cX12_step 243 = .ok (.getfield 230, 3) := by decide +kernel
theorem dX12_step_246 : decode cX12_step 246 = .ok (.sipush 12600, 3) := by decide +kernel
theorem dX12_step_249 : decode cX12_step 249 = .ok (.aload_n 0, 1) := by decide +kernel
theorem dX12_step_250 : decode cX12_step 250 = .ok (.getfield 759, 3) := by decide +kernel
theorem dX12_step_253 : decode cX12_step 253 = .ok (.imul, 1) := by decide +kernel
theorem dX12_step_254 : decode cX12_step 254 = .ok (.aload_n 0, 1) := by decide +kernel
theorem dX12_step_255 : decode cX12_step 255 = .ok (.getfield 214, 3) := by decide +kernel
theorem dX12_step_258 : decode cX12_step 258 = .ok (.iload_n 1, 1) := by decide +kernel
theorem dX12_step_259 : decode cX12_step 259 = .ok (.iaload, 1) := by decide +kernel
theorem dX12_step_260 : decode cX12_step 260 = .ok (.iadd, 1) := by decide +kernel
theorem dX12_step_261 : decode cX12_step 261 = .ok (.iload 4, 2) := by decide +kernel
theorem dX12_step_263 : decode cX12_step 263 = .ok (.iadd, 1) := by decide +kernel
theorem dX12_step_264 : decode cX12_step 264 = .ok (.iaload, 1) := by decide +kernel
theorem dX12_step_265 : decode cX12_step 265 = .ok (.invokevirtual 778, 3) := by decide +kernel
theorem dX12_step_268 : decode cX12_step 268 = .ok (.goto 146, 3) := by decide +kernel
theorem dX12_step_271 : decode cX12_step 271 = .ok (.aload_n 0, 1) := by decide +kernel
theorem dX12_step_272 : decode cX12_step 272 = .ok (.getfield 211, 3) := by decide +kernel
theorem dX12_step_275 : decode cX12_step 275 = .ok (.iload_n 1, 1) := by decide +kernel
theorem dX12_step_276 : decode cX12_step 276 = .ok (.dup2, 1) := by decide +kernel
theorem dX12_step_277 : decode cX12_step 277 = .ok (.iaload, 1) := by decide +kernel
theorem dX12_step_278 : decode cX12_step 278 = .ok (.iconst 3, 1) := by decide +kernel
theorem dX12_step_279 : decode cX12_step 279 = .ok (.iadd, 1) := by decide +kernel
theorem dX12_step_280 : decode cX12_step 280 = .ok (.iastore, 1) := by decide +kernel
theorem dX12_step_281 : decode cX12_step 281 = .ok (.aload_n 0, 1) := by decide +kernel
theorem dX12_step_282 : decode cX12_step 282 = .ok (.invokevirtual 857, 3) := by decide +kernel
theorem dX12_step_285 : decode cX12_step 285 = .ok (.istore 5, 2) := by decide +kernel
theorem dX12_step_287 : decode cX12_step 287 = .ok (.aload_n 0, 1) := by decide +kernel
theorem dX12_step_288 : decode cX12_step 288 = .ok (.aload_n 0, 1) := by decide +kernel
theorem dX12_step_289 : decode cX12_step 289 = .ok (.getfield 759, 3) := by decide +kernel
theorem dX12_step_292 : decode cX12_step 292 = .ok (.iload_n 1, 1) := by decide +kernel
theorem dX12_step_293 : decode cX12_step 293 = .ok (.iload 4, 2) := by decide +kernel
theorem dX12_step_295 : decode cX12_step 295 = .ok (.iload 5, 2) := by decide +kernel
theorem dX12_step_297 : decode cX12_step 297 = .ok (.aload_n 0, 1) := by decide +kernel
theorem dX12_step_298 : decode cX12_step 298 = .ok (.getfield 762, 3) := by decide +kernel
theorem dX12_step_301 : decode cX12_step 301 = .ok (.invokevirtual 805, 3) := by decide +kernel
theorem dX12_step_304 : decode cX12_step 304 = .ok (.goto 110, 3) := by decide +kernel
theorem dX12_step_307 : decode cX12_step 307 = .ok (.aload_n 0, 1) := by decide +kernel
theorem dX12_step_308 : decode cX12_step 308 = .ok (.getfield 211, 3) := by decide +kernel
theorem dX12_step_311 : decode cX12_step 311 = .ok (.iload_n 1, 1) := by decide +kernel
theorem dX12_step_312 : decode cX12_step 312 = .ok (.dup2, 1) := by decide +kernel
theorem dX12_step_313 : decode cX12_step 313 = .ok (.iaload, 1) := by decide +kernel
theorem dX12_step_314 : decode cX12_step 314 = .ok (.iconst 1, 1) := by decide +kernel
theorem dX12_step_315 : decode cX12_step 315 = .ok (.iadd, 1) := by decide +kernel
theorem dX12_step_316 : decode cX12_step 316 = .ok (.iastore, 1) := by decide +kernel
theorem dX12_step_317 : decode cX12_step 317 = .ok (.aload_n 0, 1) := by decide +kernel
theorem dX12_step_318 : decode cX12_step 318 = .ok (.invokevirtual 857, 3) := by decide +kernel
theorem dX12_step_321 : decode cX12_step 321 = .ok (.istore 6, 2) := by decide +kernel
theorem dX12_step_323 : decode cX12_step 323 = .ok (.goto 91, 3) := by decide +kernel
theorem dX12_step_326 : decode cX12_step 326 = .ok (.aload_n 0, 1) := by decide +kernel
theorem dX12_step_327 : decode cX12_step 327 = .ok (.getfield 211, 3) := by decide +kernel
theorem dX12_step_330 : decode cX12_step 330 = .ok (.iload_n 1, 1) := by decide +kernel
theorem dX12_step_331 : decode cX12_step 331 = .ok (.aload_n 0, 1) := by decide +kernel
theorem dX12_step_332 : decode cX12_step 332 = .ok (.getfield 153, 3) := by decide +kernel
theorem dX12_step_335 : decode cX12_step 335 = .ok (.iconst 2, 1) := by decide +kernel
theorem dX12_step_336 : decode cX12_step 336 = .ok (.aload_n 0, 1) := by decide +kernel
theorem dX12_step_337 : decode cX12_step 337 = .ok (.getfield 208, 3) := by decide +kernel
theorem dX12_step_340 : decode cX12_step 340 = .ok (.iload_n 1, 1) := by decide +kernel
theorem dX12_step_341 : decode cX12_step 341 = .ok (.iaload, 1) := by decide +kernel
theorem dX12_step_342 : decode cX12_step 342 = .ok (.imul, 1) := by decide +kernel
theorem dX12_step_343 : decode cX12_step 343 = .ok (.iaload, 1) := by decide +kernel
theorem dX12_step_344 : decode cX12_step 344 = .ok (.iload 4, 2) := by decide +kernel
theorem dX12_step_346 : decode cX12_step 346 = .ok (.iadd, 1) := by decide +kernel
theorem dX12_step_347 : decode cX12_step 347 = .ok (.iastore, 1) := by decide +kernel
theorem dX12_step_348 : decode cX12_step 348 = .ok (.goto 66, 3) := by decide +kernel
theorem dX12_step_351 : decode cX12_step 351 = .ok (.aload_n 0, 1) := by decide +kernel
theorem dX12_step_352 : decode cX12_step 352 = .ok (.iload_n 1, 1) := by decide +kernel
theorem dX12_step_353 : decode cX12_step 353 = .ok (.iload 4, 2) := by decide +kernel
theorem dX12_step_355 : decode cX12_step 355 = .ok (.invokevirtual 860, 3) := by decide +kernel
theorem dX12_step_358 : decode cX12_step 358 = .ok (.goto 56, 3) := by decide +kernel
theorem dX12_step_361 : decode cX12_step 361 = .ok (.aload_n 0, 1) := by decide +kernel
theorem dX12_step_362 : decode cX12_step 362 = .ok (.iload_n 1, 1) := by decide +kernel
theorem dX12_step_363 : decode cX12_step 363 = .ok (.iload 4, 2) := by decide +kernel
theorem dX12_step_365 : decode cX12_step 365 = .ok (.invokevirtual 863, 3) := by decide +kernel
theorem dX12_step_368 : decode cX12_step 368 = .ok (.goto 46, 3) := by decide +kernel
theorem dX12_step_371 : decode cX12_step 371 = .ok (.aload_n 0, 1) := by decide +kernel
theorem dX12_step_372 : decode cX12_step 372 = .ok (.getfield 211, 3) := by decide +kernel
theorem dX12_step_375 : decode cX12_step 375 = .ok (.iload_n 1, 1) := by decide +kernel
theorem dX12_step_376 : decode cX12_step 376 = .ok (.dup2, 1) := by decide +kernel
theorem dX12_step_377 : decode cX12_step 377 = .ok (.iaload, 1) := by decide +kernel
theorem dX12_step_378 : decode cX12_step 378 = .ok (.iconst 1, 1) := by decide +kernel
theorem dX12_step_379 : decode cX12_step 379 = .ok (.iadd, 1) := by decide +kernel
theorem dX12_step_380 : decode cX12_step 380 = .ok (.iastore, 1) := by decide +kernel
theorem dX12_step_381 : decode cX12_step 381 = .ok (.aload_n 0, 1) := by decide +kernel
theorem dX12_step_382 : decode cX12_step 382 = .ok (.getfield 243, 3) := by decide +kernel
theorem dX12_step_385 : decode cX12_step 385 = .ok (.aload_n 0, 1) := by decide +kernel
theorem dX12_step_386 : decode cX12_step 386 = .ok (.getfield 759, 3) := by decide +kernel
theorem dX12_step_389 : decode cX12_step 389 = .ok (.dup2, 1) := by decide +kernel
theorem dX12_step_390 : decode cX12_step 390 = .ok (.iaload, 1) := by decide +kernel
theorem dX12_step_391 : decode cX12_step 391 = .ok (.iconst 1, 1) := by decide +kernel
theorem dX12_step_392 : decode cX12_step 392 = .ok (.isub, 1) := by decide +kernel
theorem dX12_step_393 : decode cX12_step 393 = .ok (.iastore, 1) := by decide +kernel
theorem dX12_step_394 : decode cX12_step 394 = .ok (.goto 20, 3) := by decide +kernel
theorem dX12_step_397 : decode cX12_step 397 = .ok (.aload_n 0, 1) := by decide +kernel
theorem dX12_step_398 : decode cX12_step 398 = .ok (.iload_n 1, 1) := by decide +kernel
theorem dX12_step_399 : decode cX12_step 399 = .ok (.invokevirtual 866, 3) := by decide +kernel
theorem dX12_step_402 : decode cX12_step 402 = .ok (.goto 12, 3) := by decide +kernel
theorem dX12_step_405 : decode cX12_step 405 = .ok (.aload_n 0, 1) := by decide +kernel
theorem dX12_step_406 : decode cX12_step 406 = .ok (.iload_n 1, 1) := by decide +kernel
theorem dX12_step_407 : decode cX12_step 407 = .ok (.iload_n 3, 1) := by decide +kernel
theorem dX12_step_408 : decode cX12_step 408 = .ok (.iload 4, 2) := by decide +kernel
theorem dX12_step_410 : decode cX12_step 410 = .ok (.iload_n 2, 1) := by decide +kernel
theorem dX12_step_411 : decode cX12_step 411 = .ok (.invokevirtual 869, 3) := by decide +kernel
theorem dX12_step_414 : decode cX12_step 414 = .ok (.return_, 1) := by decide +kernel
theorem dX12_stepIf_0 : decode cX12_stepIf 0 = .ok (.aload_n 0, 1) := by decide +kernel
theorem dX12_stepIf_1 : decode cX12_stepIf 1 = .ok (.getfield 211, 3) := by decide +kernel
theorem dX12_stepIf_4 : decode cX12_stepIf 4 = .ok (.iload_n 1, 1) := by decide +kernel
theorem dX12_stepIf_5 : decode cX12_stepIf 5 = .ok (.dup2, 1) := by decide +kernel
theorem dX12_stepIf_6 : decode cX12_stepIf 6 = .ok (.iaload, 1) := by decide +kernel
theorem dX12_stepIf_7 : decode cX12_stepIf 7 = .ok (.iconst 3, 1) := by decide +kernel
theorem dX12_stepIf_8 : decode cX12_stepIf 8 = .ok (.iadd, 1) := by decide +kernel
theorem dX12_stepIf_9 : decode cX12_stepIf 9 = .ok (.iastore, 1) := by decide +kernel
theorem dX12_stepIf_10 : decode cX12_stepIf 10 = .ok (.aload_n 0, 1) := by decide +kernel
theorem dX12_stepIf_11 : decode cX12_stepIf 11 = .ok (.invokevirtual 857, 3) := by decide +kernel
theorem dX12_stepIf_14 : decode cX12_stepIf 14 = .ok (.ifCond .eq 11, 3) := by decide +kernel
theorem dX12_stepIf_17 : decode cX12_stepIf 17 = .ok (.aload_n 0, 1) := by decide +kernel
theorem dX12_stepIf_18 : decode cX12_stepIf 18 = .ok (.iconst 5, 1) := by decide +kernel
theorem dX12_stepIf_19 : decode cX12_stepIf 19 = .ok (.invokevirtual 790, 3) := by decide +kernel
