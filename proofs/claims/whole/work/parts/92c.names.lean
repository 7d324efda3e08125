theorem dX12_innerPrefix_18 : decode cX12_innerPrefix 18 = .ok (.aload_n 0, 1) := by decide +kernel
theorem dX12_innerPrefix_19 : decode cX12_innerPrefix 19 = .ok (.dup, 1) := by decide +kernel
theorem dX12_innerPrefix_20 : decode cX12_innerPrefix 20 = .ok (.getfield 458, 3) := by decide +kernel
theorem dX12_innerPrefix_23 : decode cX12_innerPrefix 23 = .ok (.iconst 1, 1) := by decide +kernel
theorem dX12_innerPrefix_24 : decode cX12_innerPrefix 24 = .ok (.isub, 1) := by decide +kernel
theorem dX12_innerPrefix_25 : decode cX12_innerPrefix 25 = .ok (.putfield 458, 3) := by decide +kernel
theorem dX12_innerPrefix_28 : decode cX12_innerPrefix 28 = .ok (.iload_n 1, 1) := by decide +kernel
theorem dX12_innerPrefix_29 : decode cX12_innerPrefix 29 = .ok (.ireturn, 1) := by decide +kernel
theorem dX12_wholeE_0 : decode cX12_wholeE 0 = .ok (.aload_n 0, 1) := by decide +kernel
theorem dX12_wholeE_1 : decode cX12_wholeE 1 = .ok (.iconst 3, 1) := by decide +kernel
theorem dX12_wholeE_2 : decode cX12_wholeE 2 = .ok (.invokevirtual 394, 3) := by decide +kernel
theorem dX12_wholeE_5 : decode cX12_wholeE 5 = .ok (.ifCond .eq 8, 3) := by decide +kernel
theorem dX12_wholeE_8 : decode cX12_wholeE 8 = .ok (.aload_n 0, 1) := by decide +kernel
theorem dX12_wholeE_9 : decode cX12_wholeE 9 = .ok (.invokevirtual 534, 3) := by decide +kernel
theorem dX12_wholeE_12 : decode cX12_wholeE 12 = .ok (.ireturn, 1) := by decide +kernel
theorem dX12_wholeE_13 : decode cX12_wholeE 13 = .ok (.aload_n 0, 1) := by decide +kernel
theorem dX12_wholeE_14 : decode cX12_wholeE 14 = .ok (.iconst 5, 1) := by decide +kernel
theorem dX12_wholeE_15 : decode cX12_wholeE 15 = .ok (.invokevirtual 394, 3) := by decide +kernel
theorem dX12_wholeE_18 : decode cX12_wholeE 18 = .ok (.ifCond .eq 8, 3) := by decide +kernel
theorem dX12_wholeE_21 : decode cX12_wholeE 21 = .ok (.aload_n 0, 1) := by decide +kernel
theorem dX12_wholeE_22 : decode cX12_wholeE 22 = .ok (.invokevirtual 537, 3) := by decide +kernel
theorem dX12_wholeE_25 : decode cX12_wholeE 25 = .ok (.ireturn, 1) := by decide +kernel
theorem dX12_wholeE_26 : decode cX12_wholeE 26 = .ok (.aload_n 0, 1) := by decide +kernel
theorem dX12_wholeE_27 : decode cX12_wholeE 27 = .ok (.bipush 8, 2) := by decide +kernel
theorem dX12_wholeE_29 : decode cX12_wholeE 29 = .ok (.invokevirtual 394, 3) := by decide +kernel
theorem dX12_wholeE_32 : decode cX12_wholeE 32 = .ok (.ifCond .eq 8, 3) := by decide +kernel
theorem dX12_wholeE_35 : decode cX12_wholeE 35 = .ok (.aload_n 0, 1) := by decide +kernel
theorem dX12_wholeE_36 : decode cX12_wholeE 36 = .ok (.invokevirtual 540, 3) := by decide +kernel
theorem dX12_wholeE_39 : decode cX12_wholeE 39 = .ok (.ireturn, 1) := by decide +kernel
theorem dX12_wholeE_40 : decode cX12_wholeE 40 = .ok (.aload_n 0, 1) := by decide +kernel
theorem dX12_wholeE_41 : decode cX12_wholeE 41 = .ok (.invokevirtual 543, 3) := by decide +kernel
theorem dX12_wholeE_44 : decode cX12_wholeE 44 = .ok (.istore_n 1, 1) := by decide +kernel
theorem dX12_wholeE_45 : decode cX12_wholeE 45 = .ok (.aload_n 0, 1) := by decide +kernel
theorem dX12_wholeE_46 : decode cX12_wholeE 46 = .ok (.bipush 60, 2) := by decide +kernel
theorem dX12_wholeE_48 : decode cX12_wholeE 48 = .ok (.invokevirtual 385, 3) := by decide +kernel
theorem dX12_wholeE_51 : decode cX12_wholeE 51 = .ok (.ifCond .ne 13, 3) := by decide +kernel
theorem dX12_wholeE_54 : decode cX12_wholeE 54 = .ok (.aload_n 0, 1) := by decide +kernel
theorem dX12_wholeE_55 : decode cX12_wholeE 55 = .ok (.sipush 257, 3) := by decide +kernel
theorem dX12_wholeE_58 : decode cX12_wholeE 58 = .ok (.invokevirtual 385, 3) := by decide +kernel
theorem dX12_wholeE_61 : decode cX12_wholeE 61 = .ok (.ifCond .eq 34, 3) := by decide +kernel
theorem dX12_wholeE_64 : decode cX12_wholeE 64 = .ok (.aload_n 0, 1) := by decide +kernel
theorem dX12_wholeE_65 : decode cX12_wholeE 65 = .ok (.aload_n 0, 1) := by decide +kernel
theorem dX12_wholeE_66 : decode cX12_wholeE 66 = .ok (.getfield 369, 3) := by decide +kernel
theorem dX12_wholeE_69 : decode cX12_wholeE 69 = .ok (.bipush 60, 2) := by decide +kernel
theorem dX12_wholeE_71 : decode cX12_wholeE 71 = .ok (.if_icmp .ne 8, 3) := by decide +kernel
theorem dX12_wholeE_74 : decode cX12_wholeE 74 = .ok (.bipush 14, 2) := by decide +kernel
theorem dX12_wholeE_76 : decode cX12_wholeE 76 = .ok (.goto 5, 3) := by decide +kernel
theorem dX12_wholeE_79 : decode cX12_wholeE 79 = .ok (.bipush 15, 2) := by decide +kernel
theorem dX12_wholeE_81 : decode cX12_wholeE 81 = .ok (.iload_n 1, 1) := by decide +kernel
theorem dX12_wholeE_82 : decode cX12_wholeE 82 = .ok (.invokevirtual 546, 3) := by decide +kernel
theorem dX12_wholeE_85 : decode cX12_wholeE 85 = .ok (.istore_n 1, 1) := by decide +kernel
theorem dX12_wholeE_86 : decode cX12_wholeE 86 = .ok (.aload_n 0, 1) := by decide +kernel
theorem dX12_wholeE_87 : decode cX12_wholeE 87 = .ok (.iload_n 1, 1) := by decide +kernel
theorem dX12_wholeE_88 : decode cX12_wholeE 88 = .ok (.aload_n 0, 1) := by decide +kernel
theorem dX12_wholeE_89 : decode cX12_wholeE 89 = .ok (.invokevirtual 543, 3) := by decide +kernel
theorem dX12_wholeE_92 : decode cX12_wholeE 92 = .ok (.invokevirtual 549, 3) := by decide +kernel
theorem dX12_wholeE_95 : decode cX12_wholeE 95 = .ok (.iload_n 1, 1) := by decide +kernel
theorem dX12_wholeE_96 : decode cX12_wholeE 96 = .ok (.ireturn, 1) := by decide +kernel
theorem dX12_operation_0 : decode cX12_operation 0 = .ok (.aload_n 0, 1) := by decide +kernel
theorem dX12_operation_1 : decode cX12_operation 1 = .ok (.invokevirtual 552, 3) := by decide +kernel
theorem dX12_operation_4 : decode cX12_operation 4 = .ok (.ifCond .ne 5, 3) := by decide +kernel
theorem dX12_operation_7 : decode cX12_operation 7 = .ok (.iconst 0, 1) := by decide +kernel
theorem dX12_operation_8 : decode cX12_operation 8 = .ok (.ireturn, 1) := by decide +kernel
theorem dX12_operation_9 : decode cX12_operation 9 = .ok (.aload_n 0, 1) := by decide +kernel
theorem dX12_operation_10 : decode cX12_operation 10 = .ok (.iload_n 1, 1) := by decide +kernel
theorem dX12_operation_11 : decode cX12_operation 11 = .ok (.iconst 0, 1) := by decide +kernel
theorem dX12_operation_12 : decode cX12_operation 12 = .ok (.iconst 0, 1) := by decide +kernel
theorem dX12_operation_13 : decode cX12_operation 13 = .ok (.invokevirtual 555, 3) := by decide +kernel
theorem dX12_operation_16 : decode cX12_operation 16 = .ok (.istore_n 3, 1) := by decide +kernel
theorem dX12_operation_17 : decode cX12_operation 17 = .ok (.aload_n 0, 1) := by decide +kernel
theorem dX12_operation_18 : decode cX12_operation 18 = .ok (.iload_n 3, 1) := by decide +kernel
theorem dX12_operation_19 : decode cX12_operation 19 = .ok (.iload_n 2, 1) := by decide +kernel
theorem dX12_operation_20 : decode cX12_operation 20 = .ok (.invokevirtual 549, 3) := by decide +kernel
theorem dX12_operation_23 : decode cX12_operation 23 = .ok (.aload_n 0, 1) := by decide +kernel
theorem dX12_operation_24 : decode cX12_operation 24 = .ok (.invokevirtual 388, 3) := by decide +kernel
theorem dX12_operation_27 : decode cX12_operation 27 = .ok (.iload_n 3, 1) := by decide +kernel
theorem dX12_operation_28 : decode cX12_operation 28 = .ok (.ireturn, 1) := by decide +kernel
theorem dX12_sum_0 : decode cX12_sum 0 = .ok (.aload_n 0, 1) := by decide +kernel
theorem dX12_sum_1 : decode cX12_sum 1 = .ok (.invokevirtual 558, 3) := by decide +kernel
theorem dX12_sum_4 : decode cX12_sum 4 = .ok (.istore_n 1, 1) := by decide +kernel
theorem dX12_sum_5 : decode cX12_sum 5 = .ok (.aload_n 0, 1) := by decide +kernel
theorem dX12_sum_6 : decode cX12_sum 6 = .ok (.bipush 43, 2) := by decide +kernel
theorem dX12_sum_8 : decode cX12_sum 8 = .ok (.invokevirtual 385, 3) := by decide +kernel
theorem dX12_sum_11 : decode cX12_sum 11 = .ok (.ifCond .ne 12, 3) := by decide +kernel
theorem dX12_sum_14 : decode cX12_sum 14 = .ok (.aload_n 0, 1) := by decide +kernel
theorem dX12_sum_15 : decode cX12_sum 15 = .ok (.bipush 45, 2) := by decide +kernel
theorem dX12_sum_17 : decode cX12_sum 17 = .ok (.invokevirtual 385, 3) := by decide +kernel
theorem dX12_sum_20 : decode cX12_sum 20 = .ok (.ifCond .eq 37, 3) := by decide +kernel
theorem dX12_sum_23 : decode cX12_sum 23 = .ok (.aload_n 0, 1) := by decide +kernel
theorem dX12_sum_24 : decode cX12_sum 24 = .ok (.aload_n 0, 1) := by decide +kernel
theorem dX12_sum_25 : decode cX12_sum 25 = .ok (.getfield 369, 3) := by decide +kernel
theorem dX12_sum_28 : decode cX12_sum 28 = .ok (.bipush 43, 2) := by decide +kernel
theorem dX12_sum_30 : decode cX12_sum 30 = .ok (.if_icmp .ne 8, 3) := by decide +kernel
theorem dX12_sum_33 : decode cX12_sum 33 = .ok (.bipush 11, 2) := by decide +kernel
theorem dX12_sum_35 : decode cX12_sum 35 = .ok (.goto 5, 3) := by decide +kernel
theorem dX12_sum_38 : decode cX12_sum 38 = .ok (.bipush 12, 2) := by decide +kernel
theorem dX12_sum_40 : decode cX12_sum 40 = .ok (.iload_n 1, 1) := by decide +kernel
theorem dX12_sum_41 : decode cX12_sum 41 = .ok (.invokevirtual 546, 3) := by decide +kernel
theorem dX12_sum_44 : decode cX12_sum 44 = .ok (.istore_n 1, 1) := by decide +kernel
theorem dX12_sum_45 : decode cX12_sum 45 = .ok (.aload_n 0, 1) := by decide +kernel
theorem dX12_sum_46 : decode cX12_sum 46 = .ok (.iload_n 1, 1) := by decide +kernel
theorem dX12_sum_47 : decode cX12_sum 47 = .ok (.aload_n 0, 1) := by decide +kernel
theorem dX12_sum_48 : decode cX12_sum 48 = .ok (.invokevirtual 558, 3) := by decide +kernel
theorem dX12_sum_51 : decode cX12_sum 51 = .ok (.invokevirtual 549, 3) := by decide +kernel
theorem dX12_sum_54 : decode cX12_sum 54 = .ok (.goto (-49), 3) := by decide +kernel
theorem dX12_sum_57 : decode cX12_sum 57 = .ok (.iload_n 1, 1) := by decide +kernel
theorem dX12_sum_58 : decode cX12_sum 58 = .ok (.ireturn, 1) := by decide +kernel
theorem dX12_product_0 : decode cX12_product 0 = .ok (.aload_n 0, 1) := by decide +kernel
theorem dX12_product_1 : decode cX12_product 1 = .ok (.invokevirtual 560, 3) := by decide +kernel
theorem dX12_product_4 : decode cX12_product 4 = .ok (.istore_n 1, 1) := by decide +kernel
theorem dX12_product_5 : decode cX12_product 5 = .ok (.aload_n 0, 1) := by decide +kernel
theorem dX12_product_6 : decode cX12_product 6 = .ok (.bipush 42, 2) := by decide +kernel
theorem dX12_product_8 : decode cX12_product 8 = .ok (.invokevirtual 385, 3) := by decide +kernel
theorem dX12_product_11 : decode cX12_product 11 = .ok (.ifCond .eq 23, 3) := by decide +kernel
theorem dX12_product_14 : decode cX12_product 14 = .ok (.aload_n 0, 1) := by decide +kernel
theorem dX12_product_15 : decode cX12_product 15 = .ok (.bipush 13, 2) := by decide +kernel
theorem dX12_product_17 : decode cX12_product 17 = .ok (.iload_n 1, 1) := by decide +kernel
theorem dX12_product_18 : decode cX12_product 18 = .ok (.invokevirtual 546, 3) := by decide +kernel
theorem dX12_product_21 : decode cX12_product 21 = .ok (.istore_n 1, 1) := by decide +kernel
theorem dX12_product_22 : decode cX12_product 22 = .ok (.aload_n 0, 1) := by decide +kernel
theorem dX12_product_23 : decode cX12_product 23 = .ok (.iload_n 1, 1) := by decide +kernel
theorem dX12_product_24 : decode cX12_product 24 = .ok (.aload_n 0, 1) := by decide +kernel
theorem dX12_product_25 : decode cX12_product 25 = .ok (.invokevirtual 560, 3) := by decide +kernel
theorem dX12_product_28 : decode cX12_product 28 = .ok (.invokevirtual 549, 3) := by decide +kernel
theorem dX12_product_31 : decode cX12_product 31 = .ok (.goto (-26), 3) := by decide +kernel
theorem dX12_product_34 : decode cX12_product 34 = .ok (.iload_n 1, 1) := by decide +kernel
theorem dX12_product_35 : decode cX12_product 35 = .ok (.ireturn, 1) := by decide +kernel
theorem dX12_anyPrefix_0 : decode cX12_anyPrefix 0 = .ok (.aload_n 0, 1) := by decide +kernel
theorem dX12_anyPrefix_1 : decode cX12_anyPrefix 1 = .ok (.invokevirtual 332, 3) := by decide +kernel
theorem dX12_anyPrefix_4 : decode cX12_anyPrefix 4 = .ok (.ifCond .eq 14, 3) := by decide +kernel
theorem dX12_anyPrefix_7 : decode cX12_anyPrefix 7 = .ok (.aload_n 0, 1) := by decide +kernel
theorem dX12_anyPrefix_8 : decode cX12_anyPrefix 8 = .ok (.invokevirtual 518, 3) := by decide +kernel
theorem dX12_anyPrefix_11 : decode cX12_anyPrefix 11 = .ok (.ifCond .ne 7, 3) := by decide +kernel
theorem dX12_anyPrefix_14 : decode cX12_anyPrefix 14 = .ok (.aload_n 0, 1) := by decide +kernel
theorem dX12_anyPrefix_15 : decode cX12_anyPrefix 15 = .ok (.invokevirtual 391, 3) := by decide +kernel
theorem dX12_anyPrefix_18 : decode cX12_anyPrefix 18 = .ok (.aload_n 0, 1) := by decide +kernel
theorem dX12_anyPrefix_19 : decode cX12_anyPrefix 19 = .ok (.invokevirtual 332, 3) := by decide +kernel
theorem dX12_anyPrefix_22 : decode cX12_anyPrefix 22 = .ok (.ifCond .eq 10, 3) := by decide +kernel
theorem dX12_anyPrefix_25 : decode cX12_anyPrefix 25 = .ok (.aload_n 0, 1) := by decide +kernel
theorem dX12_anyPrefix_26 : decode cX12_anyPrefix 26 = .ok (.invokevirtual 531, 3) := by decide +kernel
theorem dX12_anyPrefix_29 : decode cX12_anyPrefix 29 = .ok (.goto 4, 3) := by decide +kernel
theorem dX12_anyPrefix_32 : decode cX12_anyPrefix 32 = .ok (.iconst 0, 1) := by decide +kernel
theorem dX12_anyPrefix_33 : decode cX12_anyPrefix 33 = .ok (.ireturn, 1) := by decide +kernel
theorem dX12_binds_0 : decode cX12_binds 0 = .ok (.aload_n 0, 1) := by decide +kernel
theorem dX12_binds_1 : decode cX12_binds 1 = .ok (.invokevirtual 400, 3) := by decide +kernel
theorem dX12_binds_4 : decode cX12_binds 4 = .ok (.ifCond .ne 4, 3) := by decide +kernel
theorem dX12_binds_7 : decode cX12_binds 7 = .ok (.return_, 1) := by decide +kernel
theorem dX12_binds_8 : decode cX12_binds 8 = .ok (.aload_n 0, 1) := by decide +kernel
theorem dX12_binds_9 : decode cX12_binds 9 = .ok (.getfield 446, 3) := by decide +kernel
theorem dX12_binds_12 : decode cX12_binds 12 = .ok (.bipush 12, 2) := by decide +kernel
theorem dX12_binds_14 : decode cX12_binds 14 = .ok (.if_icmp .ne 9, 3) := by decide +kernel
theorem dX12_binds_17 : decode cX12_binds 17 = .ok (.aload_n 0, 1) := by decide +kernel
theorem dX12_binds_18 : decode cX12_binds 18 = .ok (.iconst 4, 1) := by decide +kernel
theorem dX12_binds_19 : decode cX12_binds 19 = .ok (.invokevirtual 362, 3) := by decide +kernel
theorem dX12_binds_22 : decode cX12_binds 22 = .ok (.return_, 1) := by decide +kernel
theorem dX12_binds_23 : decode cX12_binds 23 = .ok (.aload_n 0, 1) := by decide +kernel
theorem dX12_binds_24 : decode cX12_binds 24 = .ok (.aload_n 0, 1) := by decide +kernel
theorem dX12_binds_25 : decode cX12_binds 25 = .ok (.aload_n 0, 1) := by decide +kernel
theorem dX12_binds_26 : decode cX12_binds 26 = .ok (.getfield 421, 3) := by decide +kernel
theorem dX12_binds_29 : decode cX12_binds 29 = .ok (.aload_n 0, 1) := by decide +kernel
theorem dX12_binds_30 : decode cX12_binds 30 = .ok (.getfield 358, 3) := by decide +kernel
theorem dX12_binds_33 : decode cX12_binds 33 = .ok (.iload_n 1, 1) := by decide +kernel
theorem dX12_binds_34 : decode cX12_binds 34 = .ok (.iconst 1, 1) := by decide +kernel
theorem dX12_binds_35 : decode cX12_binds 35 = .ok (.invokevirtual 508, 3) := by decide +kernel
theorem dX12_binds_38 : decode cX12_binds 38 = .ok (.putfield 563, 3) := by decide +kernel
theorem dX12_binds_41 : decode cX12_binds 41 = .ok (.aload_n 0, 1) := by decide +kernel
theorem dX12_binds_42 : decode cX12_binds 42 = .ok (.invokevirtual 388, 3) := by decide +kernel
theorem dX12_binds_45 : decode cX12_binds 45 = .ok (.return_, 1) := by decide +kernel
theorem dX12_letE_0 : decode cX12_letE 0 = .ok (.aload_n 0, 1) := by decide +kernel
theorem dX12_letE_1 : decode cX12_letE 1 = .ok (.invokevirtual 552, 3) := by decide +kernel
theorem dX12_letE_4 : decode cX12_letE 4 = .ok (.ifCond .ne 5, 3) := by decide +kernel
theorem dX12_letE_7 : decode cX12_letE 7 = .ok (.iconst 0, 1) := by decide +kernel
theorem dX12_letE_8 : decode cX12_letE 8 = .ok (.ireturn, 1) := by decide +kernel
theorem dX12_letE_9 : decode cX12_letE 9 = .ok (.aload_n 0, 1) := by decide +kernel
theorem dX12_letE_10 : decode cX12_letE 10 = .ok (.bipush 40, 2) := by decide +kernel
theorem dX12_letE_12 : decode cX12_letE 12 = .ok (.iconst 0, 1) := by decide +kernel
theorem dX12_letE_13 : decode cX12_letE 13 = .ok (.iconst 0, 1) := by decide +kernel
theorem dX12_letE_14 : decode cX12_letE 14 = .ok (.invokevirtual 555, 3) := by decide +kernel
theorem dX12_letE_17 : decode cX12_letE 17 = .ok (.istore_n 1, 1) := by decide +kernel
theorem dX12_letE_18 : decode cX12_letE 18 = .ok (.aload_n 0, 1) := by decide +kernel
theorem dX12_letE_19 : decode cX12_letE 19 = .ok (.getfield 93, 3) := by decide +kernel
theorem dX12_letE_22 : decode cX12_letE 22 = .ok (.aload_n 0, 1) := by decide +kernel
theorem dX12_letE_23 : decode cX12_letE 23 = .ok (.getfield 421, 3) := by decide +kernel
theorem dX12_letE_26 : decode cX12_letE 26 = .ok (.iaload, 1) := by decide +kernel
theorem dX12_letE_27 : decode cX12_letE 27 = .ok (.istore_n 2, 1) := by decide +kernel
theorem dX12_letE_28 : decode cX12_letE 28 = .ok (.aload_n 0, 1) := by decide +kernel
theorem dX12_letE_29 : decode cX12_letE 29 = .ok (.getfield 93, 3) := by decide +kernel
theorem dX12_letE_32 : decode cX12_letE 32 = .ok (.aload_n 0, 1) := by decide +kernel
theorem dX12_letE_33 : decode cX12_letE 33 = .ok (.getfield 421, 3) := by decide +kernel
theorem dX12_letE_36 : decode cX12_letE 36 = .ok (.dup2, 1) := by decide +kernel
theorem dX12_letE_37 : decode cX12_letE 37 = .ok (.iaload, 1) := by decide +kernel
theorem dX12_letE_38 : decode cX12_letE 38 = .ok (.iconst 1, 1) := by decide +kernel
theorem dX12_letE_39 : decode cX12_letE 39 = .ok (.iadd, 1) := by decide +kernel
theorem dX12_letE_40 : decode cX12_letE 40 = .ok (.iastore, 1) := by decide +kernel
theorem dX12_letE_41 : decode cX12_letE 41 = .ok (.aload_n 0, 1) := by decide +kernel
theorem dX12_letE_42 : decode cX12_letE 42 = .ok (.invokevirtual 388, 3) := by decide +kernel
theorem dX12_letE_45 : decode cX12_letE 45 = .ok (.aload_n 0, 1) := by decide +kernel
theorem dX12_letE_46 : decode cX12_letE 46 = .ok (.iload_n 2, 1) := by decide +kernel
theorem dX12_letE_47 : decode cX12_letE 47 = .ok (.invokevirtual 566, 3) := by decide +kernel
theorem dX12_letE_50 : decode cX12_letE 50 = .ok (.aload_n 0, 1) := by decide +kernel
theorem dX12_letE_51 : decode cX12_letE 51 = .ok (.getfield 563, 3) := by decide +kernel
theorem dX12_letE_54 : decode cX12_letE 54 = .ok (.istore_n 3, 1) := by decide +kernel
theorem dX12_letE_55 : decode cX12_letE 55 = .ok (.aload_n 0, 1) := by decide +kernel
theorem dX12_letE_56 : decode cX12_letE 56 = .ok (.getfield 133, 3) := by decide +kernel
theorem dX12_letE_59 : decode cX12_letE 59 = .ok (.iload_n 1, 1) := by decide +kernel
theorem dX12_letE_60 : decode cX12_letE 60 = .ok (.iload_n 3, 1) := by decide +kernel
theorem dX12_letE_61 : decode cX12_letE 61 = .ok (.iastore, 1) := by decide +kernel
theorem dX12_letE_62 : decode cX12_letE 62 = .ok (.aload_n 0, 1) := by decide +kernel
theorem dX12_letE_63 : decode cX12_letE 63 = .ok (.bipush 61, 2) := by decide +kernel
theorem dX12_letE_65 : decode cX12_letE 65 = .ok (.invokevirtual 479, 3) := by decide +kernel
theorem dX12_letE_68 : decode cX12_letE 68 = .ok (.aload_n 0, 1) := by decide +kernel
theorem dX12_letE_69 : decode cX12_letE 69 = .ok (.iload_n 1, 1) := by decide +kernel
theorem dX12_letE_70 : decode cX12_letE 70 = .ok (.aload_n 0, 1) := by decide +kernel
theorem dX12_letE_71 : decode cX12_letE 71 = .ok (.invokevirtual 515, 3) := by decide +kernel
theorem dX12_letE_74 : decode cX12_letE 74 = .ok (.invokevirtual 549, 3) := by decide +kernel
theorem dX12_letE_77 : decode cX12_letE 77 = .ok (.aload_n 0, 1) := by decide +kernel
theorem dX12_letE_78 : decode cX12_letE 78 = .ok (.iconst 4, 1) := by decide +kernel
theorem dX12_letE_79 : decode cX12_letE 79 = .ok (.invokevirtual 485, 3) := by decide +kernel
theorem dX12_letE_82 : decode cX12_letE 82 = .ok (.aload_n 0, 1) := by decide +kernel
theorem dX12_letE_83 : decode cX12_letE 83 = .ok (.iload_n 3, 1) := by decide +kernel
theorem dX12_letE_84 : decode cX12_letE 84 = .ok (.iload_n 1, 1) := by decide +kernel
theorem dX12_letE_85 : decode cX12_letE 85 = .ok (.invokevirtual 569, 3) := by decide +kernel
theorem dX12_letE_88 : decode cX12_letE 88 = .ok (.iload_n 1, 1) := by decide +kernel
theorem dX12_letE_89 : decode cX12_letE 89 = .ok (.ireturn, 1) := by decide +kernel
theorem dX12_around_0 : decode cX12_around 0 = .ok (.aload_n 0, 1) := by decide +kernel
theorem dX12_around_1 : decode cX12_around 1 = .ok (.invokevirtual 332, 3) := by decide +kernel
theorem dX12_around_4 : decode cX12_around 4 = .ok (.ifCond .ne 4, 3) := by decide +kernel
theorem dX12_around_7 : decode cX12_around 7 = .ok (.return_, 1) := by decide +kernel
theorem dX12_around_8 : decode cX12_around 8 = .ok (.aload_n 0, 1) := by decide +kernel
theorem dX12_around_9 : decode cX12_around 9 = .ok (.getfield 118, 3) := by decide +kernel
theorem dX12_around_12 : decode cX12_around 12 = .ok (.aload_n 0, 1) := by decide +kernel
theorem dX12_around_13 : decode cX12_around 13 = .ok (.getfield 446, 3) := by decide +kernel
theorem dX12_around_16 : decode cX12_around 16 = .ok (.iload_n 1, 1) := by decide +kernel
theorem dX12_around_17 : decode cX12_around 17 = .ok (.iastore, 1) := by decide +kernel
theorem dX12_around_18 : decode cX12_around 18 = .ok (.aload_n 0, 1) := by decide +kernel
theorem dX12_around_19 : decode cX12_around 19 = .ok (.dup, 1) := by decide +kernel
theorem dX12_around_20 : decode cX12_around 20 = .ok (.getfield 446, 3) := by decide +kernel
theorem dX12_around_23 : decode cX12_around 23 = .ok (.iconst 1, 1) := by decide +kernel
theorem dX12_around_24 : decode cX12_around 24 = .ok (.iadd, 1) := by decide +kernel
theorem dX12_around_25 : decode cX12_around 25 = .ok (.putfield 446, 3) := by decide +kernel
theorem dX12_around_28 : decode cX12_around 28 = .ok (.aload_n 0, 1) := by decide +kernel
theorem dX12_around_29 : decode cX12_around 29 = .ok (.iload_n 2, 1) := by decide +kernel
theorem dX12_around_30 : decode cX12_around 30 = .ok (.aload_n 0, 1) := by decide +kernel
theorem dX12_around_31 : decode cX12_around 31 = .ok (.invokevirtual 515, 3) := by decide +kernel
theorem dX12_around_34 : decode cX12_around 34 = .ok (.invokevirtual 549, 3) := by decide +kernel
theorem dX12_around_37 : decode cX12_around 37 = .ok (.aload_n 0, 1) := by decide +kernel
theorem dX12_around_38 : decode cX12_around 38 = .ok (.dup, 1) := by decide +kernel
theorem dX12_around_39 : decode cX12_around 39 = .ok (.getfield 446, 3) := by decide +kernel
theorem dX12_around_42 : decode cX12_around 42 = .ok (.iconst 1, 1) := by decide +kernel
theorem dX12_around_43 : decode cX12_around 43 = .ok (.isub, 1) := by decide +kernel
theorem dX12_around_44 : decode cX12_around 44 = .ok (.putfield 446, 3) := by decide +kernel
theorem dX12_around_47 : decode cX12_around 47 = .ok (.return_, 1) := by decide +kernel
theorem dX12_ifE_0 : decode cX12_ifE 0 = .ok (.aload_n 0, 1) := by decide +kernel
theorem dX12_ifE_1 : decode cX12_ifE 1 = .ok (.invokevirtual 552, 3) := by decide +kernel
theorem dX12_ifE_4 : decode cX12_ifE 4 = .ok (.ifCond .ne 5, 3) := by decide +kernel
theorem dX12_ifE_7 : decode cX12_ifE 7 = .ok (.iconst 0, 1) := by decide +kernel
theorem dX12_ifE_8 : decode cX12_ifE 8 = .ok (.ireturn, 1) := by decide +kernel
theorem dX12_ifE_9 : decode cX12_ifE 9 = .ok (.aload_n 0, 1) := by decide +kernel
theorem dX12_ifE_10 : decode cX12_ifE 10 = .ok (.bipush 41, 2) := by decide +kernel
theorem dX12_ifE_12 : decode cX12_ifE 12 = .ok (.iconst 0, 1) := by decide +kernel
theorem dX12_ifE_13 : decode cX12_ifE 13 = .ok (.iconst 0, 1) := by decide +kernel
theorem dX12_ifE_14 : decode cX12_ifE 14 = .ok (.invokevirtual 555, 3) := by decide +kernel
theorem dX12_ifE_17 : decode cX12_ifE 17 = .ok (.istore_n 1, 1) := by decide +kernel
theorem dX12_ifE_18 : decode cX12_ifE 18 = .ok (.aload_n 0, 1) := by decide +kernel
theorem dX12_ifE_19 : decode cX12_ifE 19 = .ok (.invokevirtual 388, 3) := by decide +kernel
theorem dX12_ifE_22 : decode cX12_ifE 22 = .ok (.aload_n 0, 1) := by decide +kernel
theorem dX12_ifE_23 : decode cX12_ifE 23 = .ok (.iload_n 1, 1) := by decide +kernel
theorem dX12_ifE_24 : decode cX12_ifE 24 = .ok (.aload_n 0, 1) := by decide +kernel
theorem dX12_ifE_25 : decode cX12_ifE 25 = .ok (.invokevirtual 515, 3) := by decide +kernel
theorem dX12_ifE_28 : decode cX12_ifE 28 = .ok (.invokevirtual 549, 3) := by decide +kernel
theorem dX12_ifE_31 : decode cX12_ifE 31 = .ok (.aload_n 0, 1) := by decide +kernel
theorem dX12_ifE_32 : decode cX12_ifE 32 = .ok (.bipush 6, 2) := by decide +kernel
theorem dX12_ifE_34 : decode cX12_ifE 34 = .ok (.invokevirtual 485, 3) := by decide +kernel
theorem dX12_ifE_37 : decode cX12_ifE 37 = .ok (.aload_n 0, 1) := by decide +kernel
theorem dX12_ifE_38 : decode cX12_ifE 38 = .ok (.iload_n 1, 1) := by decide +kernel
theorem dX12_ifE_39 : decode cX12_ifE 39 = .ok (.aload_n 0, 1) := by decide +kernel
theorem dX12_ifE_40 : decode cX12_ifE 40 = .ok (.invokevirtual 515, 3) := by decide +kernel
theorem dX12_ifE_43 : decode cX12_ifE 43 = .ok (.invokevirtual 549, 3) := by decide +kernel
theorem dX12_ifE_46 : decode cX12_ifE 46 = .ok (.aload_n 0, 1) := by decide +kernel
theorem dX12_ifE_47 : decode cX12_ifE 47 = .ok (.bipush 7, 2) := by decide +kernel
theorem dX12_ifE_49 : decode cX12_ifE 49 = .ok (.invokevirtual 485, 3) := by decide +kernel
theorem dX12_ifE_52 : decode cX12_ifE 52 = .ok (.aload_n 0, 1) := by decide +kernel
theorem dX12_ifE_53 : decode cX12_ifE 53 = .ok (.iload_n 1, 1) := by decide +kernel
theorem dX12_ifE_54 : decode cX12_ifE 54 = .ok (.aload_n 0, 1) := by decide +kernel
theorem dX12_ifE_55 : decode cX12_ifE 55 = .ok (.invokevirtual 515, 3) := by decide +kernel
theorem dX12_ifE_58 : decode cX12_ifE 58 = .ok (.invokevirtual 549, 3) := by decide +kernel
theorem dX12_ifE_61 : decode cX12_ifE 61 = .ok (.iload_n 1, 1) := by decide +kernel
theorem dX12_ifE_62 : decode cX12_ifE 62 = .ok (.ireturn, 1) := by decide +kernel
theorem dX12_tryE_0 : decode cX12_tryE 0 = .ok (.aload_n 0, 1) := by decide +kernel
theorem dX12_tryE_1 : decode cX12_tryE 1 = .ok (.invokevirtual 552, 3) := by decide +kernel
theorem dX12_tryE_4 : decode cX12_tryE 4 = .ok (.ifCond .ne 5, 3) := by decide +kernel
theorem dX12_tryE_7 : decode cX12_tryE 7 = .ok (.iconst 0, 1) := by decide +kernel
theorem dX12_tryE_8 : decode cX12_tryE 8 = .ok (.ireturn, 1) := by decide +kernel
theorem dX12_tryE_9 : decode cX12_tryE 9 = .ok (.aload_n 0, 1) := by decide +kernel
theorem dX12_tryE_10 : decode cX12_tryE 10 = .ok (.bipush 19, 2) := by decide +kernel
theorem dX12_tryE_12 : decode cX12_tryE 12 = .ok (.iconst 0, 1) := by decide +kernel
theorem dX12_tryE_13 : decode cX12_tryE 13 = .ok (.iconst 0, 1) := by decide +kernel
theorem dX12_tryE_14 : decode cX12_tryE 14 = .ok (.invokevirtual 555, 3) := by decide +kernel
theorem dX12_tryE_17 : decode cX12_tryE 17 = .ok (.istore_n 1, 1) := by decide +kernel
theorem dX12_tryE_18 : decode cX12_tryE 18 = .ok (.aload_n 0, 1) := by decide +kernel
theorem dX12_tryE_19 : decode cX12_tryE 19 = .ok (.invokevirtual 388, 3) := by decide +kernel
theorem dX12_tryE_22 : decode cX12_tryE 22 = .ok (.aload_n 0, 1) := by decide +kernel
theorem dX12_tryE_23 : decode cX12_tryE 23 = .ok (.iload_n 1, 1) := by decide +kernel
theorem dX12_tryE_24 : decode cX12_tryE 24 = .ok (.aload_n 0, 1) := by decide +kernel
theorem dX12_tryE_25 : decode cX12_tryE 25 = .ok (.invokevirtual 515, 3) := by decide +kernel
theorem dX12_tryE_28 : decode cX12_tryE 28 = .ok (.invokevirtual 549, 3) := by decide +kernel
theorem dX12_tryE_31 : decode cX12_tryE 31 = .ok (.aload_n 0, 1) := by decide +kernel
theorem dX12_tryE_32 : decode cX12_tryE 32 = .ok (.bipush 9, 2) := by decide +kernel
theorem dX12_tryE_34 : decode cX12_tryE 34 = .ok (.invokevirtual 394, 3) := by decide +kernel
theorem dX12_tryE_37 : decode cX12_tryE 37 = .ok (.ifCond .ne 11, 3) := by decide +kernel
theorem dX12_tryE_40 : decode cX12_tryE 40 = .ok (.aload_n 0, 1) := by decide +kernel
theorem dX12_tryE_41 : decode cX12_tryE 41 = .ok (.bipush 9, 2) := by decide +kernel
theorem dX12_tryE_43 : decode cX12_tryE 43 = .ok (.invokevirtual 485, 3) := by decide +kernel
theorem dX12_tryE_46 : decode cX12_tryE 46 = .ok (.iload_n 1, 1) := by decide +kernel
theorem dX12_tryE_47 : decode cX12_tryE 47 = .ok (.ireturn, 1) := by decide +kernel
theorem dX12_tryE_48 : decode cX12_tryE 48 = .ok (.aload_n 0, 1) := by decide +kernel
theorem dX12_tryE_49 : decode cX12_tryE 49 = .ok (.getfield 93, 3) := by decide +kernel
theorem dX12_tryE_52 : decode cX12_tryE 52 = .ok (.aload_n 0, 1) := by decide +kernel
theorem dX12_tryE_53 : decode cX12_tryE 53 = .ok (.getfield 421, 3) := by decide +kernel
theorem dX12_tryE_56 : decode cX12_tryE 56 = .ok (.iaload, 1) := by decide +kernel
theorem dX12_tryE_57 : decode cX12_tryE 57 = .ok (.istore_n 2, 1) := by decide +kernel
theorem dX12_tryE_58 : decode cX12_tryE 58 = .ok (.aload_n 0, 1) := by decide +kernel
theorem dX12_tryE_59 : decode cX12_tryE 59 = .ok (.getfield 93, 3) := by decide +kernel
theorem dX12_tryE_62 : decode cX12_tryE 62 = .ok (.aload_n 0, 1) := by decide +kernel
theorem dX12_tryE_63 : decode cX12_tryE 63 = .ok (.getfield 421, 3) := by decide +kernel
theorem dX12_tryE_66 : decode cX12_tryE 66 = .ok (.dup2, 1) := by decide +kernel
theorem dX12_tryE_67 : decode cX12_tryE 67 = .ok (.iaload, 1) := by decide +kernel
theorem dX12_tryE_68 : decode cX12_tryE 68 = .ok (.iconst 1, 1) := by decide +kernel
theorem dX12_tryE_69 : decode cX12_tryE 69 = .ok (.iadd, 1) := by decide +kernel
theorem dX12_tryE_70 : decode cX12_tryE 70 = .ok (.iastore, 1) := by decide +kernel
theorem dX12_tryE_71 : decode cX12_tryE 71 = .ok (.aload_n 0, 1) := by decide +kernel
theorem dX12_tryE_72 : decode cX12_tryE 72 = .ok (.invokevirtual 388, 3) := by decide +kernel
theorem dX12_tryE_75 : decode cX12_tryE 75 = .ok (.aload_n 0, 1) := by decide +kernel
theorem dX12_tryE_76 : decode cX12_tryE 76 = .ok (.iload_n 2, 1) := by decide +kernel
theorem dX12_tryE_77 : decode cX12_tryE 77 = .ok (.invokevirtual 566, 3) := by decide +kernel
theorem dX12_tryE_80 : decode cX12_tryE 80 = .ok (.aload_n 0, 1) := by decide +kernel
theorem dX12_tryE_81 : decode cX12_tryE 81 = .ok (.getfield 563, 3) := by decide +kernel
theorem dX12_tryE_84 : decode cX12_tryE 84 = .ok (.istore_n 3, 1) := by decide +kernel
theorem dX12_tryE_85 : decode cX12_tryE 85 = .ok (.aload_n 0, 1) := by decide +kernel
theorem dX12_tryE_86 : decode cX12_tryE 86 = .ok (.getfield 133, 3) := by decide +kernel
theorem dX12_tryE_89 : decode cX12_tryE 89 = .ok (.iload_n 1, 1) := by decide +kernel
theorem dX12_tryE_90 : decode cX12_tryE 90 = .ok (.iload_n 3, 1) := by decide +kernel
theorem dX12_tryE_91 : decode cX12_tryE 91 = .ok (.iastore, 1) := by decide +kernel
theorem dX12_tryE_92 : decode cX12_tryE 92 = .ok (.aload_n 0, 1) := by decide +kernel
theorem dX12_tryE_93 : decode cX12_tryE 93 = .ok (.bipush 58, 2) := by decide +kernel
theorem dX12_tryE_95 : decode cX12_tryE 95 = .ok (.invokevirtual 479, 3) := by decide +kernel
theorem dX12_tryE_98 : decode cX12_tryE 98 = .ok (.aload_n 0, 1) := by decide +kernel
theorem dX12_tryE_99 : decode cX12_tryE 99 = .ok (.iload_n 3, 1) := by decide +kernel
theorem dX12_tryE_100 : decode cX12_tryE 100 = .ok (.iload_n 1, 1) := by decide +kernel
theorem dX12_tryE_101 : decode cX12_tryE 101 = .ok (.invokevirtual 569, 3) := by decide +kernel
theorem dX12_tryE_104 : decode cX12_tryE 104 = .ok (.iload_n 1, 1) := by decide +kernel
theorem dX12_tryE_105 : decode cX12_tryE 105 = .ok (.ireturn, 1) := by decide +kernel
theorem dX12_prefix_0 : decode cX12_prefix 0 = .ok (.aload_n 0, 1) := by decide +kernel
theorem dX12_prefix_1 : decode cX12_prefix 1 = .ok (.bipush 19, 2) := by decide +kernel
theorem dX12_prefix_3 : decode cX12_prefix 3 = .ok (.invokevirtual 394, 3) := by decide +kernel
theorem dX12_prefix_6 : decode cX12_prefix 6 = .ok (.ifCond .ne 30, 3) := by decide +kernel
theorem dX12_prefix_9 : decode cX12_prefix 9 = .ok (.aload_n 0, 1) := by decide +kernel
theorem dX12_prefix_10 : decode cX12_prefix 10 = .ok (.bipush 22, 2) := by decide +kernel
theorem dX12_prefix_12 : decode cX12_prefix 12 = .ok (.invokevirtual 394, 3) := by decide +kernel
theorem dX12_prefix_15 : decode cX12_prefix 15 = .ok (.ifCond .ne 21, 3) := by decide +kernel
theorem dX12_prefix_18 : decode cX12_prefix 18 = .ok (.aload_n 0, 1) := by decide +kernel
theorem dX12_prefix_19 : decode cX12_prefix 19 = .ok (.bipush 20, 2) := by decide +kernel
theorem dX12_prefix_21 : decode cX12_prefix 21 = .ok (.invokevirtual 394, 3) := by decide +kernel
theorem dX12_prefix_24 : decode cX12_prefix 24 = .ok (.ifCond .ne 12, 3) := by decide +kernel
theorem dX12_prefix_27 : decode cX12_prefix 27 = .ok (.aload_n 0, 1) := by decide +kernel
theorem dX12_prefix_28 : decode cX12_prefix 28 = .ok (.bipush 21, 2) := by decide +kernel
theorem dX12_prefix_30 : decode cX12_prefix 30 = .ok (.invokevirtual 394, 3) := by decide +kernel
theorem dX12_prefix_33 : decode cX12_prefix 33 = .ok (.ifCond .eq 78, 3) := by decide +kernel
theorem dX12_prefix_36 : decode cX12_prefix 36 = .ok (.aload_n 0, 1) := by decide +kernel
theorem dX12_prefix_37 : decode cX12_prefix 37 = .ok (.invokevirtual 552, 3) := by decide +kernel
theorem dX12_prefix_40 : decode cX12_prefix 40 = .ok (.ifCond .ne 5, 3) := by decide +kernel
theorem dX12_prefix_43 : decode cX12_prefix 43 = .ok (.iconst 0, 1) := by decide +kernel
theorem dX12_prefix_44 : decode cX12_prefix 44 = .ok (.ireturn, 1) := by decide +kernel
theorem dX12_prefix_45 : decode cX12_prefix 45 = .ok (.aload_n 0, 1) := by decide +kernel
theorem dX12_prefix_46 : decode cX12_prefix 46 = .ok (.aload_n 0, 1) := by decide +kernel
theorem dX12_prefix_47 : decode cX12_prefix 47 = .ok (.getfield 369, 3) := by decide +kernel
theorem dX12_prefix_50 : decode cX12_prefix 50 = .ok (.bipush 19, 2) := by decide +kernel
theorem dX12_prefix_52 : decode cX12_prefix 52 = .ok (.if_icmp .ne 8, 3) := by decide +kernel
theorem dX12_prefix_55 : decode cX12_prefix 55 = .ok (.bipush 21, 2) := by decide +kernel
theorem dX12_prefix_57 : decode cX12_prefix 57 = .ok (.goto 33, 3) := by decide +kernel
theorem dX12_prefix_60 : decode cX12_prefix 60 = .ok (.aload_n 0, 1) := by decide +kernel
theorem dX12_prefix_61 : decode cX12_prefix 61 = .ok (.getfield 369, 3) := by decide +kernel
theorem dX12_prefix_64 : decode cX12_prefix 64 = .ok (.bipush 22, 2) := by decide +kernel
theorem dX12_prefix_66 : decode cX12_prefix 66 = .ok (.if_icmp .ne 8, 3) := by decide +kernel
theorem dX12_prefix_69 : decode cX12_prefix 69 = .ok (.bipush 22, 2) := by decide +kernel
theorem dX12_prefix_71 : decode cX12_prefix 71 = .ok (.goto 19, 3) := by decide +kernel
theorem dX12_prefix_74 : decode cX12_prefix 74 = .ok (.aload_n 0, 1) := by decide +kernel
theorem dX12_prefix_75 : decode cX12_prefix 75 = .ok (.getfield 369, 3) := by decide +kernel
theorem dX12_prefix_78 : decode cX12_prefix 78 = .ok (.bipush 20, 2) := by decide +kernel
theorem dX12_prefix_80 : decode cX12_prefix 80 = .ok (.if_icmp .ne 8, 3) := by decide +kernel
theorem dX12_prefix_83 : decode cX12_prefix 83 = .ok (.bipush 23, 2) := by decide +kernel
theorem dX12_prefix_85 : decode cX12_prefix 85 = .ok (.goto 5, 3) := by decide +kernel
theorem dX12_prefix_88 : decode cX12_prefix 88 = .ok (.bipush 24, 2) := by decide +kernel
theorem dX12_prefix_90 : decode cX12_prefix 90 = .ok (.iconst 0, 1) := by decide +kernel
theorem dX12_prefix_91 : decode cX12_prefix 91 = .ok (.iconst 0, 1) := by decide +kernel
theorem dX12_prefix_92 : decode cX12_prefix 92 = .ok (.invokevirtual 555, 3) := by decide +kernel
theorem dX12_prefix_95 : decode cX12_prefix 95 = .ok (.istore_n 1, 1) := by decide +kernel
theorem dX12_prefix_96 : decode cX12_prefix 96 = .ok (.aload_n 0, 1) := by decide +kernel
theorem dX12_prefix_97 : decode cX12_prefix 97 = .ok (.invokevirtual 388, 3) := by decide +kernel
theorem dX12_prefix_100 : decode cX12_prefix 100 = .ok (.aload_n 0, 1) := by decide +kernel
theorem dX12_prefix_101 : decode cX12_prefix 101 = .ok (.iload_n 1, 1) := by decide +kernel
theorem dX12_prefix_102 : decode cX12_prefix 102 = .ok (.aload_n 0, 1) := by decide +kernel
theorem dX12_prefix_103 : decode cX12_prefix 103 = .ok (.invokevirtual 572, 3) := by decide +kernel
theorem dX12_prefix_106 : decode cX12_prefix 106 = .ok (.invokevirtual 549, 3) := by decide +kernel
theorem dX12_prefix_109 : decode cX12_prefix 109 = .ok (.iload_n 1, 1) := by decide +kernel
theorem dX12_prefix_110 : decode cX12_prefix 110 = .ok (.ireturn, 1) := by decide +kernel
theorem dX12_prefix_111 : decode cX12_prefix 111 = .ok (.aload_n 0, 1) := by decide +kernel
theorem dX12_prefix_112 : decode cX12_prefix 112 = .ok (.bipush 10, 2) := by decide +kernel
theorem dX12_prefix_114 : decode cX12_prefix 114 = .ok (.invokevirtual 394, 3) := by decide +kernel
theorem dX12_prefix_117 : decode cX12_prefix 117 = .ok (.ifCond .eq 8, 3) := by decide +kernel
theorem dX12_prefix_120 : decode cX12_prefix 120 = .ok (.aload_n 0, 1) := by decide +kernel
theorem dX12_prefix_121 : decode cX12_prefix 121 = .ok (.invokevirtual 575, 3) := by decide +kernel
theorem dX12_prefix_124 : decode cX12_prefix 124 = .ok (.ireturn, 1) := by decide +kernel
theorem dX12_prefix_125 : decode cX12_prefix 125 = .ok (.aload_n 0, 1) := by decide +kernel
theorem dX12_prefix_126 : decode cX12_prefix 126 = .ok (.bipush 11, 2) := by decide +kernel
theorem dX12_prefix_128 : decode cX12_prefix 128 = .ok (.invokevirtual 394, 3) := by decide +kernel
theorem dX12_prefix_131 : decode cX12_prefix 131 = .ok (.ifCond .eq 10, 3) := by decide +kernel
theorem dX12_prefix_134 : decode cX12_prefix 134 = .ok (.aload_n 0, 1) := by decide +kernel
theorem dX12_prefix_135 : decode cX12_prefix 135 = .ok (.invokevirtual 578, 3) := by decide +kernel
theorem dX12_prefix_138 : decode cX12_prefix 138 = .ok (.goto 7, 3) := by decide +kernel
theorem dX12_prefix_141 : decode cX12_prefix 141 = .ok (.aload_n 0, 1) := by decide +kernel
theorem dX12_prefix_142 : decode cX12_prefix 142 = .ok (.invokevirtual 581, 3) := by decide +kernel
theorem dX12_prefix_145 : decode cX12_prefix 145 = .ok (.ireturn, 1) := by decide +kernel
theorem dX12_priv_0 : decode cX12_priv 0 = .ok (.aload_n 0, 1) := by decide +kernel
theorem dX12_priv_1 : decode cX12_priv 1 = .ok (.invokevirtual 552, 3) := by decide +kernel
theorem dX12_priv_4 : decode cX12_priv 4 = .ok (.ifCond .ne 5, 3) := by decide +kernel
theorem dX12_priv_7 : decode cX12_priv 7 = .ok (.iconst 0, 1) := by decide +kernel
theorem dX12_priv_8 : decode cX12_priv 8 = .ok (.ireturn, 1) := by decide +kernel
theorem dX12_priv_9 : decode cX12_priv 9 = .ok (.aload_n 0, 1) := by decide +kernel
theorem dX12_priv_10 : decode cX12_priv 10 = .ok (.iconst 2, 1) := by decide +kernel
theorem dX12_priv_11 : decode cX12_priv 11 = .ok (.aload_n 0, 1) := by decide +kernel
theorem dX12_priv_12 : decode cX12_priv 12 = .ok (.getfield 66, 3) := by decide +kernel
theorem dX12_priv_15 : decode cX12_priv 15 = .ok (.aload_n 0, 1) := by decide +kernel
theorem dX12_priv_16 : decode cX12_priv 16 = .ok (.getfield 421, 3) := by decide +kernel
theorem dX12_priv_19 : decode cX12_priv 19 = .ok (.iaload, 1) := by decide +kernel
theorem dX12_priv_20 : decode cX12_priv 20 = .ok (.aload_n 0, 1) := by decide +kernel
theorem dX12_priv_21 : decode cX12_priv 21 = .ok (.getfield 421, 3) := by decide +kernel
theorem dX12_priv_24 : decode cX12_priv 24 = .ok (.invokevirtual 504, 3) := by decide +kernel
theorem dX12_priv_27 : decode cX12_priv 27 = .ok (.istore_n 1, 1) := by decide +kernel
theorem dX12_priv_28 : decode cX12_priv 28 = .ok (.aload_n 0, 1) := by decide +kernel
theorem dX12_priv_29 : decode cX12_priv 29 = .ok (.bipush 10, 2) := by decide +kernel
theorem dX12_priv_31 : decode cX12_priv 31 = .ok (.iload_n 1, 1) := by decide +kernel
theorem dX12_priv_32 : decode cX12_priv 32 = .ok (.iconst 0, 1) := by decide +kernel
theorem dX12_priv_33 : decode cX12_priv 33 = .ok (.invokevirtual 555, 3) := by decide +kernel
theorem dX12_priv_36 : decode cX12_priv 36 = .ok (.istore_n 2, 1) := by decide +kernel
theorem dX12_priv_37 : decode cX12_priv 37 = .ok (.aload_n 0, 1) := by decide +kernel
theorem dX12_priv_38 : decode cX12_priv 38 = .ok (.invokevirtual 388, 3) := by decide +kernel
theorem dX12_priv_41 : decode cX12_priv 41 = .ok (.aload_n 0, 1) := by decide +kernel
theorem dX12_priv_42 : decode cX12_priv 42 = .ok (.bipush 91, 2) := by decide +kernel
theorem dX12_priv_44 : decode cX12_priv 44 = .ok (.invokevirtual 385, 3) := by decide +kernel
theorem dX12_priv_47 : decode cX12_priv 47 = .ok (.ifCond .eq 102, 3) := by decide +kernel
theorem dX12_priv_50 : decode cX12_priv 50 = .ok (.aload_n 0, 1) := by decide +kernel
theorem dX12_priv_51 : decode cX12_priv 51 = .ok (.getfield 431, 3) := by decide +kernel
theorem dX12_priv_54 : decode cX12_priv 54 = .ok (.bipush 12, 2) := by decide +kernel
theorem dX12_priv_56 : decode cX12_priv 56 = .ok (.if_icmp .ne 10, 3) := by decide +kernel
theorem dX12_priv_59 : decode cX12_priv 59 = .ok (.aload_n 0, 1) := by decide +kernel
theorem dX12_priv_60 : decode cX12_priv 60 = .ok (.iconst 4, 1) := by decide +kernel
theorem dX12_priv_61 : decode cX12_priv 61 = .ok (.invokevirtual 362, 3) := by decide +kernel
theorem dX12_priv_64 : decode cX12_priv 64 = .ok (.iload_n 2, 1) := by decide +kernel
theorem dX12_priv_65 : decode cX12_priv 65 = .ok (.ireturn, 1) := by decide +kernel
theorem dX12_priv_66 : decode cX12_priv 66 = .ok (.aload_n 0, 1) := by decide +kernel
theorem dX12_priv_67 : decode cX12_priv 67 = .ok (.getfield 63, 3) := by decide +kernel
theorem dX12_priv_70 : decode cX12_priv 70 = .ok (.iload_n 1, 1) := by decide +kernel
theorem dX12_priv_71 : decode cX12_priv 71 = .ok (.iconst 3, 1) := by decide +kernel
theorem dX12_priv_72 : decode cX12_priv 72 = .ok (.iastore, 1) := by decide +kernel
theorem dX12_priv_73 : decode cX12_priv 73 = .ok (.aload_n 0, 1) := by decide +kernel
theorem dX12_priv_74 : decode cX12_priv 74 = .ok (.getfield 81, 3) := by decide +kernel
theorem dX12_priv_77 : decode cX12_priv 77 = .ok (.iload_n 1, 1) := by decide +kernel
theorem dX12_priv_78 : decode cX12_priv 78 = .ok (.aload_n 0, 1) := by decide +kernel
theorem dX12_priv_79 : decode cX12_priv 79 = .ok (.getfield 431, 3) := by decide +kernel
theorem dX12_priv_82 : decode cX12_priv 82 = .ok (.iastore, 1) := by decide +kernel
theorem dX12_priv_83 : decode cX12_priv 83 = .ok (.bipush 8, 2) := by decide +kernel
theorem dX12_priv_85 : decode cX12_priv 85 = .ok (.aload_n 0, 1) := by decide +kernel
theorem dX12_priv_86 : decode cX12_priv 86 = .ok (.getfield 431, 3) := by decide +kernel
theorem dX12_priv_89 : decode cX12_priv 89 = .ok (.iadd, 1) := by decide +kernel
theorem dX12_priv_90 : decode cX12_priv 90 = .ok (.istore_n 3, 1) := by decide +kernel
theorem dX12_priv_91 : decode cX12_priv 91 = .ok (.aload_n 0, 1) := by decide +kernel
theorem dX12_priv_92 : decode cX12_priv 92 = .ok (.dup, 1) := by decide +kernel
theorem dX12_priv_93 : decode cX12_priv 93 = .ok (.getfield 431, 3) := by decide +kernel
theorem dX12_priv_96 : decode cX12_priv 96 = .ok (.iconst 1, 1) := by decide +kernel
theorem dX12_priv_97 : decode cX12_priv 97 = .ok (.iadd, 1) := by decide +kernel
theorem dX12_priv_98 : decode cX12_priv 98 = .ok (.putfield 431, 3) := by decide +kernel
theorem dX12_priv_101 : decode cX12_priv 101 = .ok (.aload_n 0, 1) := by decide +kernel
theorem dX12_priv_102 : decode cX12_priv 102 = .ok (.getfield 33, 3) := by decide +kernel
theorem dX12_priv_105 : decode cX12_priv 105 = .ok (.iload_n 3, 1) := by decide +kernel
theorem dX12_priv_106 : decode cX12_priv 106 = .ok (.iconst 0, 1) := by decide +kernel
theorem dX12_priv_107 : decode cX12_priv 107 = .ok (.iastore, 1) := by decide +kernel
theorem dX12_priv_108 : decode cX12_priv 108 = .ok (.iconst 1, 1) := by decide +kernel
theorem dX12_priv_109 : decode cX12_priv 109 = .ok (.istore 4, 2) := by decide +kernel
theorem dX12_priv_111 : decode cX12_priv 111 = .ok (.iload 4, 2) := by decide +kernel
theorem dX12_priv_113 : decode cX12_priv 113 = .ok (.ifCond .eq 30, 3) := by decide +kernel
theorem dX12_priv_116 : decode cX12_priv 116 = .ok (.aload_n 0, 1) := by decide +kernel
theorem dX12_priv_117 : decode cX12_priv 117 = .ok (.invokevirtual 332, 3) := by decide +kernel
theorem dX12_priv_120 : decode cX12_priv 120 = .ok (.ifCond .eq 23, 3) := by decide +kernel
theorem dX12_priv_123 : decode cX12_priv 123 = .ok (.aload_n 0, 1) := by decide +kernel
theorem dX12_priv_124 : decode cX12_priv 124 = .ok (.invokevirtual 388, 3) := by decide +kernel
theorem dX12_priv_127 : decode cX12_priv 127 = .ok (.aload_n 0, 1) := by decide +kernel
theorem dX12_priv_128 : decode cX12_priv 128 = .ok (.iload_n 3, 1) := by decide +kernel
theorem dX12_priv_129 : decode cX12_priv 129 = .ok (.invokevirtual 482, 3) := by decide +kernel
theorem dX12_priv_132 : decode cX12_priv 132 = .ok (.aload_n 0, 1) := by decide +kernel
theorem dX12_priv_133 : decode cX12_priv 133 = .ok (.bipush 44, 2) := by decide +kernel
theorem dX12_priv_135 : decode cX12_priv 135 = .ok (.invokevirtual 385, 3) := by decide +kernel
theorem dX12_priv_138 : decode cX12_priv 138 = .ok (.istore 4, 2) := by decide +kernel
theorem dX12_priv_140 : decode cX12_priv 140 = .ok (.goto (-29), 3) := by decide +kernel
theorem dX12_priv_143 : decode cX12_priv 143 = .ok (.aload_n 0, 1) := by decide +kernel
theorem dX12_priv_144 : decode cX12_priv 144 = .ok (.bipush 93, 2) := by decide +kernel
theorem dX12_priv_146 : decode cX12_priv 146 = .ok (.invokevirtual 479, 3) := by decide +kernel
theorem dX12_priv_149 : decode cX12_priv 149 = .ok (.aload_n 0, 1) := by decide +kernel
theorem dX12_priv_150 : decode cX12_priv 150 = .ok (.iload_n 1, 1) := by decide +kernel
theorem dX12_priv_151 : decode cX12_priv 151 = .ok (.invokevirtual 584, 3) := by decide +kernel
theorem dX12_priv_154 : decode cX12_priv 154 = .ok (.iload_n 2, 1) := by decide +kernel
theorem dX12_priv_155 : decode cX12_priv 155 = .ok (.ireturn, 1) := by decide +kernel
theorem dX12_bodyOf_0 : decode cX12_bodyOf 0 = .ok (.aload_n 0, 1) := by decide +kernel
theorem dX12_bodyOf_1 : decode cX12_bodyOf 1 = .ok (.invokevirtual 332, 3) := by decide +kernel
theorem dX12_bodyOf_4 : decode cX12_bodyOf 4 = .ok (.ifCond .ne 4, 3) := by decide +kernel
theorem dX12_bodyOf_7 : decode cX12_bodyOf 7 = .ok (.return_, 1) := by decide +kernel
theorem dX12_bodyOf_8 : decode cX12_bodyOf 8 = .ok (.aload_n 0, 1) := by decide +kernel
theorem dX12_bodyOf_9 : decode cX12_bodyOf 9 = .ok (.getfield 421, 3) := by decide +kernel
theorem dX12_bodyOf_12 : decode cX12_bodyOf 12 = .ok (.istore_n 2, 1) := by decide +kernel
theorem dX12_bodyOf_13 : decode cX12_bodyOf 13 = .ok (.aload_n 0, 1) := by decide +kernel
theorem dX12_bodyOf_14 : decode cX12_bodyOf 14 = .ok (.iload_n 1, 1) := by decide +kernel
theorem dX12_bodyOf_15 : decode cX12_bodyOf 15 = .ok (.putfield 421, 3) := by decide +kernel
theorem dX12_bodyOf_18 : decode cX12_bodyOf 18 = .ok (.aload_n 0, 1) := by decide +kernel
theorem dX12_bodyOf_19 : decode cX12_bodyOf 19 = .ok (.invokevirtual 572, 3) := by decide +kernel
theorem dX12_bodyOf_22 : decode cX12_bodyOf 22 = .ok (.istore_n 3, 1) := by decide +kernel
theorem dX12_bodyOf_23 : decode cX12_bodyOf 23 = .ok (.aload_n 0, 1) := by decide +kernel
theorem dX12_bodyOf_24 : decode cX12_bodyOf 24 = .ok (.getfield 78, 3) := by decide +kernel
theorem dX12_bodyOf_27 : decode cX12_bodyOf 27 = .ok (.iload_n 1, 1) := by decide +kernel
theorem dX12_bodyOf_28 : decode cX12_bodyOf 28 = .ok (.iload_n 3, 1) := by decide +kernel
theorem dX12_bodyOf_29 : decode cX12_bodyOf 29 = .ok (.iastore, 1) := by decide +kernel
theorem dX12_bodyOf_30 : decode cX12_bodyOf 30 = .ok (.aload_n 0, 1) := by decide +kernel
theorem dX12_bodyOf_31 : decode cX12_bodyOf 31 = .ok (.iload_n 2, 1) := by decide +kernel
theorem dX12_bodyOf_32 : decode cX12_bodyOf 32 = .ok (.putfield 421, 3) := by decide +kernel
theorem dX12_bodyOf_35 : decode cX12_bodyOf 35 = .ok (.return_, 1) := by decide +kernel
theorem dX12_under_0 : decode cX12_under 0 = .ok (.aload_n 0, 1) := by decide +kernel
theorem dX12_under_1 : decode cX12_under 1 = .ok (.invokevirtual 552, 3) := by decide +kernel
theorem dX12_under_4 : decode cX12_under 4 = .ok (.ifCond .ne 5, 3) := by decide +kernel
theorem dX12_under_7 : decode cX12_under 7 = .ok (.iconst 0, 1) := by decide +kernel
theorem dX12_under_8 : decode cX12_under 8 = .ok (.ireturn, 1) := by decide +kernel
theorem dX12_under_9 : decode cX12_under 9 = .ok (.aload_n 0, 1) := by decide +kernel
theorem dX12_under_10 : decode cX12_under 10 = .ok (.iconst 4, 1) := by decide +kernel
theorem dX12_under_11 : decode cX12_under 11 = .ok (.aload_n 0, 1) := by decide +kernel
theorem dX12_under_12 : decode cX12_under 12 = .ok (.getfield 66, 3) := by decide +kernel
theorem dX12_under_15 : decode cX12_under 15 = .ok (.aload_n 0, 1) := by decide +kernel
theorem dX12_under_16 : decode cX12_under 16 = .ok (.getfield 421, 3) := by decide +kernel
theorem dX12_under_19 : decode cX12_under 19 = .ok (.iaload, 1) := by decide +kernel
theorem dX12_under_20 : decode cX12_under 20 = .ok (.aload_n 0, 1) := by decide +kernel
theorem dX12_under_21 : decode cX12_under 21 = .ok (.getfield 421, 3) := by decide +kernel
theorem dX12_under_24 : decode cX12_under 24 = .ok (.invokevirtual 504, 3) := by decide +kernel
theorem dX12_under_27 : decode cX12_under 27 = .ok (.istore_n 1, 1) := by decide +kernel
theorem dX12_under_28 : decode cX12_under 28 = .ok (.aload_n 0, 1) := by decide +kernel
theorem dX12_under_29 : decode cX12_under 29 = .ok (.bipush 10, 2) := by decide +kernel
theorem dX12_under_31 : decode cX12_under 31 = .ok (.iload_n 1, 1) := by decide +kernel
theorem dX12_under_32 : decode cX12_under 32 = .ok (.iconst 0, 1) := by decide +kernel
theorem dX12_under_33 : decode cX12_under 33 = .ok (.invokevirtual 555, 3) := by decide +kernel
theorem dX12_under_36 : decode cX12_under 36 = .ok (.istore_n 2, 1) := by decide +kernel
theorem dX12_under_37 : decode cX12_under 37 = .ok (.aload_n 0, 1) := by decide +kernel
theorem dX12_under_38 : decode cX12_under 38 = .ok (.invokevirtual 388, 3) := by decide +kernel
theorem dX12_under_41 : decode cX12_under 41 = .ok (.aload_n 0, 1) := by decide +kernel
theorem dX12_under_42 : decode cX12_under 42 = .ok (.iload_n 2, 1) := by decide +kernel
theorem dX12_under_43 : decode cX12_under 43 = .ok (.aload_n 0, 1) := by decide +kernel
theorem dX12_under_44 : decode cX12_under 44 = .ok (.invokevirtual 572, 3) := by decide +kernel
theorem dX12_under_47 : decode cX12_under 47 = .ok (.invokevirtual 549, 3) := by decide +kernel
theorem dX12_under_50 : decode cX12_under 50 = .ok (.aload_n 0, 1) := by decide +kernel
theorem dX12_under_51 : decode cX12_under 51 = .ok (.bipush 58, 2) := by decide +kernel
theorem dX12_under_53 : decode cX12_under 53 = .ok (.invokevirtual 479, 3) := by decide +kernel
theorem dX12_under_56 : decode cX12_under 56 = .ok (.aload_n 0, 1) := by decide +kernel
theorem dX12_under_57 : decode cX12_under 57 = .ok (.iload_n 1, 1) := by decide +kernel
theorem dX12_under_58 : decode cX12_under 58 = .ok (.invokevirtual 584, 3) := by decide +kernel
theorem dX12_under_61 : decode cX12_under 61 = .ok (.iload_n 2, 1) := by decide +kernel
theorem dX12_under_62 : decode cX12_under 62 = .ok (.ireturn, 1) := by decide +kernel
theorem dX12_numberOf_0 : decode cX12_numberOf 0 = .ok (.iconst 0, 1) := by decide +kernel
theorem dX12_numberOf_1 : decode cX12_numberOf 1 = .ok (.istore_n 2, 1) := by decide +kernel
theorem dX12_numberOf_2 : decode cX12_numberOf 2 = .ok (.iload_n 2, 1) := by decide +kernel
theorem dX12_numberOf_3 : decode cX12_numberOf 3 = .ok (.aload_n 0, 1) := by decide +kernel
theorem dX12_numberOf_4 : decode cX12_numberOf 4 = .ok (.getfield 449, 3) := by decide +kernel
theorem dX12_numberOf_7 : decode cX12_numberOf 7 = .ok (.if_icmp .ge 21, 3) := by decide +kernel
theorem dX12_numberOf_10 : decode cX12_numberOf 10 = .ok (.aload_n 0, 1) := by decide +kernel
theorem dX12_numberOf_11 : decode cX12_numberOf 11 = .ok (.getfield 121, 3) := by decide +kernel
theorem dX12_numberOf_14 : decode cX12_numberOf 14 = .ok (.iload_n 2, 1) := by decide +kernel
theorem dX12_numberOf_15 : decode cX12_numberOf 15 = .ok (.iaload, 1) := by decide +kernel
theorem dX12_numberOf_16 : decode cX12_numberOf 16 = .ok (.iload_n 1, 1) := by decide +kernel
theorem dX12_numberOf_17 : decode cX12_numberOf 17 = .ok (.if_icmp .ne 5, 3) := by decide +kernel
theorem dX12_numberOf_20 : decode cX12_numberOf 20 = .ok (.iload_n 2, 1) := by decide +kernel
theorem dX12_numberOf_21 : decode cX12_numberOf 21 = .ok (.ireturn, 1) := by decide +kernel
theorem dX12_numberOf_22 : decode cX12_numberOf 22 = .ok (.iinc 2 1, 3) := by decide +kernel
theorem dX12_numberOf_25 : decode cX12_numberOf 25 = .ok (.goto (-23), 3) := by decide +kernel
theorem dX12_numberOf_28 : decode cX12_numberOf 28 = .ok (.aload_n 0, 1) := by decide +kernel
theorem dX12_numberOf_29 : decode cX12_numberOf 29 = .ok (.getfield 121, 3) := by decide +kernel
theorem dX12_numberOf_32 : decode cX12_numberOf 32 = .ok (.aload_n 0, 1) := by decide +kernel
theorem dX12_numberOf_33 : decode cX12_numberOf 33 = .ok (.getfield 449, 3) := by decide +kernel
theorem dX12_numberOf_36 : decode cX12_numberOf 36 = .ok (.iload_n 1, 1) := by decide +kernel
theorem dX12_numberOf_37 : decode cX12_numberOf 37 = .ok (.iastore, 1) := by decide +kernel
theorem dX12_numberOf_38 : decode cX12_numberOf 38 = .ok (.aload_n 0, 1) := by decide +kernel
theorem dX12_numberOf_39 : decode cX12_numberOf 39 = .ok (.dup, 1) := by decide +kernel
theorem dX12_numberOf_40 : decode cX12_numberOf 40 = .ok (.getfield 449, 3) := by decide +kernel
theorem dX12_numberOf_43 : decode cX12_numberOf 43 = .ok (.iconst 1, 1) := by decide +kernel
theorem dX12_numberOf_44 : decode cX12_numberOf 44 = .ok (.iadd, 1) := by decide +kernel
theorem dX12_numberOf_45 : decode cX12_numberOf 45 = .ok (.putfield 449, 3) := by decide +kernel
theorem dX12_numberOf_48 : decode cX12_numberOf 48 = .ok (.aload_n 0, 1) := by decide +kernel
theorem dX12_numberOf_49 : decode cX12_numberOf 49 = .ok (.getfield 449, 3) := by decide +kernel
theorem dX12_numberOf_52 : decode cX12_numberOf 52 = .ok (.iconst 1, 1) := by decide +kernel
theorem dX12_numberOf_53 : decode cX12_numberOf 53 = .ok (.isub, 1) := by decide +kernel
theorem dX12_numberOf_54 : decode cX12_numberOf 54 = .ok (.ireturn, 1) := by decide +kernel
theorem dX12_nameOf_0 : decode cX12_nameOf 0 = .ok (.iconst 0, 1) := by decide +kernel
theorem dX12_nameOf_1 : decode cX12_nameOf 1 = .ok (.istore_n 3, 1) := by decide +kernel
theorem dX12_nameOf_2 : decode cX12_nameOf 2 = .ok (.iload_n 3, 1) := by decide +kernel
theorem dX12_nameOf_3 : decode cX12_nameOf 3 = .ok (.aload_n 0, 1) := by decide +kernel
theorem dX12_nameOf_4 : decode cX12_nameOf 4 = .ok (.getfield 452, 3) := by decide +kernel
theorem dX12_nameOf_7 : decode cX12_nameOf 7 = .ok (.if_icmp .ge 22, 3) := by decide +kernel
theorem dX12_nameOf_10 : decode cX12_nameOf 10 = .ok (.aload_n 0, 1) := by decide +kernel
theorem dX12_nameOf_11 : decode cX12_nameOf 11 = .ok (.getfield 124, 3) := by decide +kernel
theorem dX12_nameOf_14 : decode cX12_nameOf 14 = .ok (.iload_n 3, 1) := by decide +kernel
theorem dX12_nameOf_15 : decode cX12_nameOf 15 = .ok (.laload, 1) := by decide +kernel
theorem dX12_nameOf_16 : decode cX12_nameOf 16 = .ok (.lload_n 1, 1) := by decide +kernel
theorem dX12_nameOf_17 : decode cX12_nameOf 17 = .ok (.lcmp, 1) := by decide +kernel
theorem dX12_nameOf_18 : decode cX12_nameOf 18 = .ok (.ifCond .ne 5, 3) := by decide +kernel
theorem dX12_nameOf_21 : decode cX12_nameOf 21 = .ok (.iload_n 3, 1) := by decide +kernel
theorem dX12_nameOf_22 : decode cX12_nameOf 22 = .ok (.ireturn, 1) := by decide +kernel
theorem dX12_nameOf_23 : decode cX12_nameOf 23 = .ok (.iinc 3 1, 3) := by decide +kernel
theorem dX12_nameOf_26 : decode cX12_nameOf 26 = .ok (.goto (-24), 3) := by decide +kernel
theorem dX12_nameOf_29 : decode cX12_nameOf 29 = .ok (.aload_n 0, 1) := by decide +kernel
theorem dX12_nameOf_30 : decode cX12_nameOf 30 = .ok (.getfield 124, 3) := by decide +kernel
theorem dX12_nameOf_33 : decode cX12_nameOf 33 = .ok (.aload_n 0, 1) := by decide +kernel
theorem dX12_nameOf_34 : decode cX12_nameOf 34 = .ok (.getfield 452, 3) := by decide +kernel
theorem dX12_nameOf_37 : decode cX12_nameOf 37 = .ok (.lload_n 1, 1) := by decide +kernel
theorem dX12_nameOf_38 : decode cX12_nameOf 38 = .ok (.lastore, 1) := by decide +kernel
theorem dX12_nameOf_39 : decode cX12_nameOf 39 = .ok (.aload_n 0, 1) := by decide +kernel
theorem dX12_nameOf_40 : decode cX12_nameOf 40 = .ok (.dup, 1) := by decide +kernel
theorem dX12_nameOf_41 : decode cX12_nameOf 41 = .ok (.getfield 452, 3) := by decide +kernel
theorem dX12_nameOf_44 : decode cX12_nameOf 44 = .ok (.iconst 1, 1) := by decide +kernel
theorem dX12_nameOf_45 : decode cX12_nameOf 45 = .ok (.iadd, 1) := by decide +kernel
theorem dX12_nameOf_46 : decode cX12_nameOf 46 = .ok (.putfield 452, 3) := by decide +kernel
theorem dX12_nameOf_49 : decode cX12_nameOf 49 = .ok (.aload_n 0, 1) := by decide +kernel
theorem dX12_nameOf_50 : decode cX12_nameOf 50 = .ok (.getfield 452, 3) := by decide +kernel
theorem dX12_nameOf_53 : decode cX12_nameOf 53 = .ok (.iconst 1, 1) := by decide +kernel
theorem dX12_nameOf_54 : decode cX12_nameOf 54 = .ok (.isub, 1) := by decide +kernel
theorem dX12_nameOf_55 : decode cX12_nameOf 55 = .ok (.ireturn, 1) := by decide +kernel
theorem dX12_postfix_0 : decode cX12_postfix 0 = .ok (.aload_n 0, 1) := by decide +kernel
theorem dX12_postfix_1 : decode cX12_postfix 1 = .ok (.invokevirtual 587, 3) := by decide +kernel
theorem dX12_postfix_4 : decode cX12_postfix 4 = .ok (.istore_n 1, 1) := by decide +kernel
theorem dX12_postfix_5 : decode cX12_postfix 5 = .ok (.iconst 1, 1) := by decide +kernel
theorem dX12_postfix_6 : decode cX12_postfix 6 = .ok (.istore_n 2, 1) := by decide +kernel
theorem dX12_postfix_7 : decode cX12_postfix 7 = .ok (.iload_n 2, 1) := by decide +kernel
theorem dX12_postfix_8 : decode cX12_postfix 8 = .ok (.ifCond .eq 106, 3) := by decide +kernel
theorem dX12_postfix_11 : decode cX12_postfix 11 = .ok (.aload_n 0, 1) := by decide +kernel
theorem dX12_postfix_12 : decode cX12_postfix 12 = .ok (.invokevirtual 332, 3) := by decide +kernel
theorem dX12_postfix_15 : decode cX12_postfix 15 = .ok (.ifCond .eq 99, 3) := by decide +kernel
theorem dX12_postfix_18 : decode cX12_postfix 18 = .ok (.aload_n 0, 1) := by decide +kernel
theorem dX12_postfix_19 : decode cX12_postfix 19 = .ok (.bipush 40, 2) := by decide +kernel
theorem dX12_postfix_21 : decode cX12_postfix 21 = .ok (.invokevirtual 385, 3) := by decide +kernel
theorem dX12_postfix_24 : decode cX12_postfix 24 = .ok (.ifCond .eq 43, 3) := by decide +kernel
theorem dX12_postfix_27 : decode cX12_postfix 27 = .ok (.aload_n 0, 1) := by decide +kernel
theorem dX12_postfix_28 : decode cX12_postfix 28 = .ok (.invokevirtual 552, 3) := by decide +kernel
theorem dX12_postfix_31 : decode cX12_postfix 31 = .ok (.ifCond .ne 5, 3) := by decide +kernel
theorem dX12_postfix_34 : decode cX12_postfix 34 = .ok (.iload_n 1, 1) := by decide +kernel
theorem dX12_postfix_35 : decode cX12_postfix 35 = .ok (.ireturn, 1) := by decide +kernel
theorem dX12_postfix_36 : decode cX12_postfix 36 = .ok (.aload_n 0, 1) := by decide +kernel
theorem dX12_postfix_37 : decode cX12_postfix 37 = .ok (.bipush 8, 2) := by decide +kernel
theorem dX12_postfix_39 : decode cX12_postfix 39 = .ok (.iconst 0, 1) := by decide +kernel
theorem dX12_postfix_40 : decode cX12_postfix 40 = .ok (.iconst 0, 1) := by decide +kernel
theorem dX12_postfix_41 : decode cX12_postfix 41 = .ok (.invokevirtual 555, 3) := by decide +kernel
theorem dX12_postfix_44 : decode cX12_postfix 44 = .ok (.istore_n 3, 1) := by decide +kernel
theorem dX12_postfix_45 : decode cX12_postfix 45 = .ok (.aload_n 0, 1) := by decide +kernel
theorem dX12_postfix_46 : decode cX12_postfix 46 = .ok (.iload_n 3, 1) := by decide +kernel
theorem dX12_postfix_47 : decode cX12_postfix 47 = .ok (.iload_n 1, 1) := by decide +kernel
theorem dX12_postfix_48 : decode cX12_postfix 48 = .ok (.invokevirtual 549, 3) := by decide +kernel
theorem dX12_postfix_51 : decode cX12_postfix 51 = .ok (.aload_n 0, 1) := by decide +kernel
theorem dX12_postfix_52 : decode cX12_postfix 52 = .ok (.getfield 133, 3) := by decide +kernel
theorem dX12_postfix_55 : decode cX12_postfix 55 = .ok (.iload_n 3, 1) := by decide +kernel
theorem dX12_postfix_56 : decode cX12_postfix 56 = .ok (.aload_n 0, 1) := by decide +kernel
theorem dX12_postfix_57 : decode cX12_postfix 57 = .ok (.iload_n 3, 1) := by decide +kernel
theorem dX12_postfix_58 : decode cX12_postfix 58 = .ok (.invokevirtual 590, 3) := by decide +kernel
theorem dX12_postfix_61 : decode cX12_postfix 61 = .ok (.iastore, 1) := by decide +kernel
theorem dX12_postfix_62 : decode cX12_postfix 62 = .ok (.iload_n 3, 1) := by decide +kernel
theorem dX12_postfix_63 : decode cX12_postfix 63 = .ok (.istore_n 1, 1) := by decide +kernel
theorem dX12_postfix_64 : decode cX12_postfix 64 = .ok (.goto (-57), 3) := by decide +kernel
theorem dX12_postfix_67 : decode cX12_postfix 67 = .ok (.aload_n 0, 1) := by decide +kernel
theorem dX12_postfix_68 : decode cX12_postfix 68 = .ok (.bipush 46, 2) := by decide +kernel
theorem dX12_postfix_70 : decode cX12_postfix 70 = .ok (.invokevirtual 385, 3) := by decide +kernel
theorem dX12_postfix_73 : decode cX12_postfix 73 = .ok (.ifCond .eq 36, 3) := by decide +kernel
theorem dX12_postfix_76 : decode cX12_postfix 76 = .ok (.aload_n 0, 1) := by decide +kernel
theorem dX12_postfix_77 : decode cX12_postfix 77 = .ok (.iload_n 1, 1) := by decide +kernel
theorem dX12_postfix_78 : decode cX12_postfix 78 = .ok (.invokevirtual 593, 3) := by decide +kernel
theorem dX12_postfix_81 : decode cX12_postfix 81 = .ok (.istore_n 1, 1) := by decide +kernel
theorem dX12_postfix_82 : decode cX12_postfix 82 = .ok (.aload_n 0, 1) := by decide +kernel
theorem dX12_postfix_83 : decode cX12_postfix 83 = .ok (.invokevirtual 332, 3) := by decide +kernel
theorem dX12_postfix_86 : decode cX12_postfix 86 = .ok (.ifCond .eq 18, 3) := by decide +kernel
theorem dX12_postfix_89 : decode cX12_postfix 89 = .ok (.aload_n 0, 1) := by decide +kernel
theorem dX12_postfix_90 : decode cX12_postfix 90 = .ok (.getfield 127, 3) := by decide +kernel
theorem dX12_postfix_93 : decode cX12_postfix 93 = .ok (.iload_n 1, 1) := by decide +kernel
theorem dX12_postfix_94 : decode cX12_postfix 94 = .ok (.iaload, 1) := by decide +kernel
theorem dX12_postfix_95 : decode cX12_postfix 95 = .ok (.bipush 6, 2) := by decide +kernel
theorem dX12_postfix_97 : decode cX12_postfix 97 = .ok (.if_icmp .eq 7, 3) := by decide +kernel
theorem dX12_postfix_100 : decode cX12_postfix 100 = .ok (.iconst 1, 1) := by decide +kernel
theorem dX12_postfix_101 : decode cX12_postfix 101 = .ok (.goto 4, 3) := by decide +kernel
theorem dX12_postfix_104 : decode cX12_postfix 104 = .ok (.iconst 0, 1) := by decide +kernel
theorem dX12_postfix_105 : decode cX12_postfix 105 = .ok (.istore_n 2, 1) := by decide +kernel
theorem dX12_postfix_106 : decode cX12_postfix 106 = .ok (.goto (-99), 3) := by decide +kernel
theorem dX12_postfix_109 : decode cX12_postfix 109 = .ok (.iconst 0, 1) := by decide +kernel
theorem dX12_postfix_110 : decode cX12_postfix 110 = .ok (.istore_n 2, 1) := by decide +kernel
theorem dX12_postfix_111 : decode cX12_postfix 111 = .ok (.goto (-104), 3) := by decide +kernel
theorem dX12_postfix_114 : decode cX12_postfix 114 = .ok (.iload_n 1, 1) := by decide +kernel
theorem dX12_postfix_115 : decode cX12_postfix 115 = .ok (.ireturn, 1) := by decide +kernel
theorem dX12_dotted_0 : decode cX12_dotted 0 = .ok (.aload_n 0, 1) := by decide +kernel
theorem dX12_dotted_1 : decode cX12_dotted 1 = .ok (.invokevirtual 552, 3) := by decide +kernel
theorem dX12_dotted_4 : decode cX12_dotted 4 = .ok (.ifCond .ne 5, 3) := by decide +kernel
theorem dX12_dotted_7 : decode cX12_dotted 7 = .ok (.iload_n 1, 1) := by decide +kernel
theorem dX12_dotted_8 : decode cX12_dotted 8 = .ok (.ireturn, 1) := by decide +kernel
theorem dX12_dotted_9 : decode cX12_dotted 9 = .ok (.aload_n 0, 1) := by decide +kernel
theorem dX12_dotted_10 : decode cX12_dotted 10 = .ok (.invokevirtual 388, 3) := by decide +kernel
theorem dX12_dotted_13 : decode cX12_dotted 13 = .ok (.aload_n 0, 1) := by decide +kernel
theorem dX12_dotted_14 : decode cX12_dotted 14 = .ok (.invokevirtual 400, 3) := by decide +kernel
theorem dX12_dotted_17 : decode cX12_dotted 17 = .ok (.ifCond .ne 5, 3) := by decide +kernel
theorem dX12_dotted_20 : decode cX12_dotted 20 = .ok (.iload_n 1, 1) := by decide +kernel
theorem dX12_dotted_21 : decode cX12_dotted 21 = .ok (.ireturn, 1) := by decide +kernel
theorem dX12_dotted_22 : decode cX12_dotted 22 = .ok (.aload_n 0, 1) := by decide +kernel
theorem dX12_dotted_23 : decode cX12_dotted 23 = .ok (.aload_n 0, 1) := by decide +kernel
theorem dX12_dotted_24 : decode cX12_dotted 24 = .ok (.getfield 358, 3) := by decide +kernel
theorem dX12_dotted_27 : decode cX12_dotted 27 = .ok (.invokevirtual 596, 3) := by decide +kernel
theorem dX12_dotted_30 : decode cX12_dotted 30 = .ok (.istore_n 2, 1) := by decide +kernel
theorem dX12_dotted_31 : decode cX12_dotted 31 = .ok (.aload_n 0, 1) := by decide +kernel
theorem dX12_dotted_32 : decode cX12_dotted 32 = .ok (.invokevirtual 388, 3) := by decide +kernel
theorem dX12_dotted_35 : decode cX12_dotted 35 = .ok (.aload_n 0, 1) := by decide +kernel
theorem dX12_dotted_36 : decode cX12_dotted 36 = .ok (.sipush 256, 3) := by decide +kernel
theorem dX12_dotted_39 : decode cX12_dotted 39 = .ok (.invokevirtual 385, 3) := by decide +kernel
theorem dX12_dotted_42 : decode cX12_dotted 42 = .ok (.istore_n 3, 1) := by decide +kernel
theorem dX12_dotted_43 : decode cX12_dotted 43 = .ok (.aload_n 0, 1) := by decide +kernel
theorem dX12_dotted_44 : decode cX12_dotted 44 = .ok (.iload_n 3, 1) := by decide +kernel
theorem dX12_dotted_45 : decode cX12_dotted 45 = .ok (.ifCond .eq 8, 3) := by decide +kernel
theorem dX12_dotted_48 : decode cX12_dotted 48 = .ok (.bipush 6, 2) := by decide +kernel
theorem dX12_dotted_50 : decode cX12_dotted 50 = .ok (.goto 18, 3) := by decide +kernel
theorem dX12_dotted_53 : decode cX12_dotted 53 = .ok (.aload_n 0, 1) := by decide +kernel
theorem dX12_dotted_54 : decode cX12_dotted 54 = .ok (.bipush 40, 2) := by decide +kernel
theorem dX12_dotted_56 : decode cX12_dotted 56 = .ok (.invokevirtual 385, 3) := by decide +kernel
theorem dX12_dotted_59 : decode cX12_dotted 59 = .ok (.ifCond .eq 8, 3) := by decide +kernel
theorem dX12_dotted_62 : decode cX12_dotted 62 = .ok (.bipush 7, 2) := by decide +kernel
theorem dX12_dotted_64 : decode cX12_dotted 64 = .ok (.goto 4, 3) := by decide +kernel
theorem dX12_dotted_67 : decode cX12_dotted 67 = .ok (.iconst 5, 1) := by decide +kernel
theorem dX12_dotted_68 : decode cX12_dotted 68 = .ok (.iload_n 2, 1) := by decide +kernel
theorem dX12_dotted_69 : decode cX12_dotted 69 = .ok (.iconst 0, 1) := by decide +kernel
theorem dX12_dotted_70 : decode cX12_dotted 70 = .ok (.invokevirtual 555, 3) := by decide +kernel
theorem dX12_dotted_73 : decode cX12_dotted 73 = .ok (.istore 4, 2) := by decide +kernel
theorem dX12_dotted_75 : decode cX12_dotted 75 = .ok (.aload_n 0, 1) := by decide +kernel
theorem dX12_dotted_76 : decode cX12_dotted 76 = .ok (.iload 4, 2) := by decide +kernel
theorem dX12_dotted_78 : decode cX12_dotted 78 = .ok (.iload_n 1, 1) := by decide +kernel
theorem dX12_dotted_79 : decode cX12_dotted 79 = .ok (.invokevirtual 549, 3) := by decide +kernel
theorem dX12_dotted_82 : decode cX12_dotted 82 = .ok (.iload_n 3, 1) := by decide +kernel
theorem dX12_dotted_83 : decode cX12_dotted 83 = .ok (.ifCond .eq 20, 3) := by decide +kernel
theorem dX12_dotted_86 : decode cX12_dotted 86 = .ok (.aload_n 0, 1) := by decide +kernel
theorem dX12_dotted_87 : decode cX12_dotted 87 = .ok (.invokevirtual 388, 3) := by decide +kernel
theorem dX12_dotted_90 : decode cX12_dotted 90 = .ok (.aload_n 0, 1) := by decide +kernel
theorem dX12_dotted_91 : decode cX12_dotted 91 = .ok (.iload 4, 2) := by decide +kernel
theorem dX12_dotted_93 : decode cX12_dotted 93 = .ok (.aload_n 0, 1) := by decide +kernel
theorem dX12_dotted_94 : decode cX12_dotted 94 = .ok (.invokevirtual 572, 3) := by decide +kernel
theorem dX12_dotted_97 : decode cX12_dotted 97 = .ok (.invokevirtual 549, 3) := by decide +kernel
theorem dX12_dotted_100 : decode cX12_dotted 100 = .ok (.goto 25, 3) := by decide +kernel
theorem dX12_dotted_103 : decode cX12_dotted 103 = .ok (.aload_n 0, 1) := by decide +kernel
theorem dX12_dotted_104 : decode cX12_dotted 104 = .ok (.bipush 40, 2) := by decide +kernel
theorem dX12_dotted_106 : decode cX12_dotted 106 = .ok (.invokevirtual 385, 3) := by decide +kernel
theorem dX12_dotted_109 : decode cX12_dotted 109 = .ok (.ifCond .eq 16, 3) := by decide +kernel
theorem dX12_dotted_112 : decode cX12_dotted 112 = .ok (.aload_n 0, 1) := by decide +kernel
theorem dX12_dotted_113 : decode cX12_dotted 113 = .ok (.getfield 136, 3) := by decide +kernel
theorem dX12_dotted_116 : decode cX12_dotted 116 = .ok (.iload 4, 2) := by decide +kernel
theorem dX12_dotted_118 : decode cX12_dotted 118 = .ok (.aload_n 0, 1) := by decide +kernel
theorem dX12_dotted_119 : decode cX12_dotted 119 = .ok (.iload 4, 2) := by decide +kernel
theorem dX12_dotted_121 : decode cX12_dotted 121 = .ok (.invokevirtual 590, 3) := by decide +kernel
theorem dX12_dotted_124 : decode cX12_dotted 124 = .ok (.iastore, 1) := by decide +kernel
theorem dX12_dotted_125 : decode cX12_dotted 125 = .ok (.iload 4, 2) := by decide +kernel
theorem dX12_dotted_127 : decode cX12_dotted 127 = .ok (.ireturn, 1) := by decide +kernel
theorem dX12_arguments_0 : decode cX12_arguments 0 = .ok (.aload_n 0, 1) := by decide +kernel
theorem dX12_arguments_1 : decode cX12_arguments 1 = .ok (.bipush 40, 2) := by decide +kernel
theorem dX12_arguments_3 : decode cX12_arguments 3 = .ok (.invokevirtual 479, 3) := by decide +kernel
theorem dX12_arguments_6 : decode cX12_arguments 6 = .ok (.iconst 0, 1) := by decide +kernel
theorem dX12_arguments_7 : decode cX12_arguments 7 = .ok (.istore_n 2, 1) := by decide +kernel
theorem dX12_arguments_8 : decode cX12_arguments 8 = .ok (.aload_n 0, 1) := by decide +kernel
theorem dX12_arguments_9 : decode cX12_arguments 9 = .ok (.bipush 41, 2) := by decide +kernel
theorem dX12_arguments_11 : decode cX12_arguments 11 = .ok (.invokevirtual 385, 3) := by decide +kernel
theorem dX12_arguments_14 : decode cX12_arguments 14 = .ok (.ifCond .eq 9, 3) := by decide +kernel
theorem dX12_arguments_17 : decode cX12_arguments 17 = .ok (.aload_n 0, 1) := by decide +kernel
theorem dX12_arguments_18 : decode cX12_arguments 18 = .ok (.invokevirtual 388, 3) := by decide +kernel
theorem dX12_arguments_21 : decode cX12_arguments 21 = .ok (.iconst 0, 1) := by decide +kernel
theorem dX12_arguments_22 : decode cX12_arguments 22 = .ok (.ireturn, 1) := by decide +kernel
theorem dX12_arguments_23 : decode cX12_arguments 23 = .ok (.iconst 1, 1) := by decide +kernel
theorem dX12_arguments_24 : decode cX12_arguments 24 = .ok (.istore_n 3, 1) := by decide +kernel
theorem dX12_arguments_25 : decode cX12_arguments 25 = .ok (.iload_n 3, 1) := by decide +kernel
theorem dX12_arguments_26 : decode cX12_arguments 26 = .ok (.ifCond .eq 66, 3) := by decide +kernel
theorem dX12_arguments_29 : decode cX12_arguments 29 = .ok (.aload_n 0, 1) := by decide +kernel
theorem dX12_arguments_30 : decode cX12_arguments 30 = .ok (.invokevirtual 332, 3) := by decide +kernel
theorem dX12_arguments_33 : decode cX12_arguments 33 = .ok (.ifCond .eq 59, 3) := by decide +kernel
theorem dX12_arguments_36 : decode cX12_arguments 36 = .ok (.iload_n 2, 1) := by decide +kernel
theorem dX12_arguments_37 : decode cX12_arguments 37 = .ok (.iconst 3, 1) := by decide +kernel
theorem dX12_arguments_38 : decode cX12_arguments 38 = .ok (.if_icmp .ne 24, 3) := by decide +kernel
theorem dX12_arguments_41 : decode cX12_arguments 41 = .ok (.aload_n 0, 1) := by decide +kernel
theorem dX12_arguments_42 : decode cX12_arguments 42 = .ok (.invokevirtual 521, 3) := by decide +kernel
theorem dX12_arguments_45 : decode cX12_arguments 45 = .ok (.ifCond .eq 11, 3) := by decide +kernel
theorem dX12_arguments_48 : decode cX12_arguments 48 = .ok (.aload_n 0, 1) := by decide +kernel
theorem dX12_arguments_49 : decode cX12_arguments 49 = .ok (.iconst 4, 1) := by decide +kernel
theorem dX12_arguments_50 : decode cX12_arguments 50 = .ok (.invokevirtual 362, 3) := by decide +kernel
theorem dX12_arguments_53 : decode cX12_arguments 53 = .ok (.goto 7, 3) := by decide +kernel
theorem dX12_arguments_56 : decode cX12_arguments 56 = .ok (.aload_n 0, 1) := by decide +kernel
theorem dX12_arguments_57 : decode cX12_arguments 57 = .ok (.invokevirtual 391, 3) := by decide +kernel
theorem dX12_arguments_60 : decode cX12_arguments 60 = .ok (.iload_n 2, 1) := by decide +kernel
theorem dX12_arguments_61 : decode cX12_arguments 61 = .ok (.ireturn, 1) := by decide +kernel
theorem dX12_arguments_62 : decode cX12_arguments 62 = .ok (.aload_n 0, 1) := by decide +kernel
theorem dX12_arguments_63 : decode cX12_arguments 63 = .ok (.iload_n 1, 1) := by decide +kernel
theorem dX12_arguments_64 : decode cX12_arguments 64 = .ok (.aload_n 0, 1) := by decide +kernel
theorem dX12_arguments_65 : decode cX12_arguments 65 = .ok (.invokevirtual 515, 3) := by decide +kernel
theorem dX12_arguments_68 : decode cX12_arguments 68 = .ok (.invokevirtual 549, 3) := by decide +kernel
theorem dX12_arguments_71 : decode cX12_arguments 71 = .ok (.iinc 2 1, 3) := by decide +kernel
theorem dX12_arguments_74 : decode cX12_arguments 74 = .ok (.aload_n 0, 1) := by decide +kernel
theorem dX12_arguments_75 : decode cX12_arguments 75 = .ok (.bipush 44, 2) := by decide +kernel
theorem dX12_arguments_77 : decode cX12_arguments 77 = .ok (.invokevirtual 385, 3) := by decide +kernel
theorem dX12_arguments_80 : decode cX12_arguments 80 = .ok (.istore_n 3, 1) := by decide +kernel
theorem dX12_arguments_81 : decode cX12_arguments 81 = .ok (.iload_n 3, 1) := by decide +kernel
theorem dX12_arguments_82 : decode cX12_arguments 82 = .ok (.ifCond .eq (-57), 3) := by decide +kernel
theorem dX12_arguments_85 : decode cX12_arguments 85 = .ok (.aload_n 0, 1) := by decide +kernel
theorem dX12_arguments_86 : decode cX12_arguments 86 = .ok (.invokevirtual 388, 3) := by decide +kernel
theorem dX12_arguments_89 : decode cX12_arguments 89 = .ok (.goto (-64), 3) := by decide +kernel
theorem dX12_arguments_92 : decode cX12_arguments 92 = .ok (.aload_n 0, 1) := by decide +kernel
theorem dX12_arguments_93 : decode cX12_arguments 93 = .ok (.bipush 41, 2) := by decide +kernel
theorem dX12_arguments_95 : decode cX12_arguments 95 = .ok (.invokevirtual 479, 3) := by decide +kernel
theorem dX12_arguments_98 : decode cX12_arguments 98 = .ok (.iload_n 2, 1) := by decide +kernel
theorem dX12_arguments_99 : decode cX12_arguments 99 = .ok (.ireturn, 1) := by decide +kernel
theorem dX12_simple_0 : decode cX12_simple 0 = .ok (.aload_n 0, 1) := by decide +kernel
theorem dX12_simple_1 : decode cX12_simple 1 = .ok (.invokevirtual 552, 3) := by decide +kernel
theorem dX12_simple_4 : decode cX12_simple 4 = .ok (.ifCond .ne 5, 3) := by decide +kernel
theorem dX12_simple_7 : decode cX12_simple 7 = .ok (.iconst 0, 1) := by decide +kernel
theorem dX12_simple_8 : decode cX12_simple 8 = .ok (.ireturn, 1) := by decide +kernel
theorem dX12_simple_9 : decode cX12_simple 9 = .ok (.aload_n 0, 1) := by decide +kernel
theorem dX12_simple_10 : decode cX12_simple 10 = .ok (.iload_n 1, 1) := by decide +kernel
theorem dX12_simple_11 : decode cX12_simple 11 = .ok (.iload_n 2, 1) := by decide +kernel
theorem dX12_simple_12 : decode cX12_simple 12 = .ok (.iload_n 3, 1) := by decide +kernel
theorem dX12_simple_13 : decode cX12_simple 13 = .ok (.invokevirtual 555, 3) := by decide +kernel
theorem dX12_simple_16 : decode cX12_simple 16 = .ok (.istore 4, 2) := by decide +kernel
theorem dX12_simple_18 : decode cX12_simple 18 = .ok (.aload_n 0, 1) := by decide +kernel
theorem dX12_simple_19 : decode cX12_simple 19 = .ok (.invokevirtual 388, 3) := by decide +kernel
theorem dX12_simple_22 : decode cX12_simple 22 = .ok (.iload 4, 2) := by decide +kernel
theorem dX12_simple_24 : decode cX12_simple 24 = .ok (.ireturn, 1) := by decide +kernel
theorem dX12_atom_0 : decode cX12_atom 0 = .ok (.aload_n 0, 1) := by decide +kernel
theorem dX12_atom_1 : decode cX12_atom 1 = .ok (.getfield 292, 3) := by decide +kernel
theorem dX12_atom_4 : decode cX12_atom 4 = .ok (.iconst 3, 1) := by decide +kernel
theorem dX12_atom_5 : decode cX12_atom 5 = .ok (.if_icmp .ne 17, 3) := by decide +kernel
theorem dX12_atom_8 : decode cX12_atom 8 = .ok (.aload_n 0, 1) := by decide +kernel
theorem dX12_atom_9 : decode cX12_atom 9 = .ok (.invokevirtual 552, 3) := by decide +kernel
theorem dX12_atom_12 : decode cX12_atom 12 = .ok (.ifCond .ne 5, 3) := by decide +kernel
theorem dX12_atom_15 : decode cX12_atom 15 = .ok (.iconst 0, 1) := by decide +kernel
theorem dX12_atom_16 : decode cX12_atom 16 = .ok (.ireturn, 1) := by decide +kernel
theorem dX12_atom_17 : decode cX12_atom 17 = .ok (.aload_n 0, 1) := by decide +kernel
theorem dX12_atom_18 : decode cX12_atom 18 = .ok (.invokevirtual 599, 3) := by decide +kernel
theorem dX12_atom_21 : decode cX12_atom 21 = .ok (.ireturn, 1) := by decide +kernel
theorem dX12_atom_22 : decode cX12_atom 22 = .ok (.aload_n 0, 1) := by decide +kernel
theorem dX12_atom_23 : decode cX12_atom 23 = .ok (.getfield 292, 3) := by decide +kernel
theorem dX12_atom_26 : decode cX12_atom 26 = .ok (.iconst 1, 1) := by decide +kernel
theorem dX12_atom_27 : decode cX12_atom 27 = .ok (.if_icmp .ne 8, 3) := by decide +kernel
theorem dX12_atom_30 : decode cX12_atom 30 = .ok (.aload_n 0, 1) := by decide +kernel
theorem dX12_atom_31 : decode cX12_atom 31 = .ok (.invokevirtual 602, 3) := by decide +kernel
theorem dX12_atom_34 : decode cX12_atom 34 = .ok (.ireturn, 1) := by decide +kernel
theorem dX12_atom_35 : decode cX12_atom 35 = .ok (.aload_n 0, 1) := by decide +kernel
theorem dX12_atom_36 : decode cX12_atom 36 = .ok (.bipush 14, 2) := by decide +kernel
theorem dX12_atom_38 : decode cX12_atom 38 = .ok (.invokevirtual 394, 3) := by decide +kernel
theorem dX12_atom_41 : decode cX12_atom 41 = .ok (.ifCond .eq 11, 3) := by decide +kernel
theorem dX12_atom_44 : decode cX12_atom 44 = .ok (.aload_n 0, 1) := by decide +kernel
theorem dX12_atom_45 : decode cX12_atom 45 = .ok (.iconst 1, 1) := by decide +kernel
theorem dX12_atom_46 : decode cX12_atom 46 = .ok (.iconst 0, 1) := by decide +kernel
theorem dX12_atom_47 : decode cX12_atom 47 = .ok (.iconst 0, 1) := by decide +kernel
theorem dX12_atom_48 : decode cX12_atom 48 = .ok (.invokevirtual 605, 3) := by decide +kernel
theorem dX12_atom_51 : decode cX12_atom 51 = .ok (.ireturn, 1) := by decide +kernel
theorem dX12_atom_52 : decode cX12_atom 52 = .ok (.aload_n 0, 1) := by decide +kernel
theorem dX12_atom_53 : decode cX12_atom 53 = .ok (.bipush 15, 2) := by decide +kernel
theorem dX12_atom_55 : decode cX12_atom 55 = .ok (.invokevirtual 394, 3) := by decide +kernel
theorem dX12_atom_58 : decode cX12_atom 58 = .ok (.ifCond .eq 8, 3) := by decide +kernel
theorem dX12_atom_61 : decode cX12_atom 61 = .ok (.aload_n 0, 1) := by decide +kernel
theorem dX12_atom_62 : decode cX12_atom 62 = .ok (.invokevirtual 608, 3) := by decide +kernel
theorem dX12_atom_65 : decode cX12_atom 65 = .ok (.ireturn, 1) := by decide +kernel
theorem dX12_atom_66 : decode cX12_atom 66 = .ok (.aload_n 0, 1) := by decide +kernel
theorem dX12_atom_67 : decode cX12_atom 67 = .ok (.bipush 16, 2) := by decide +kernel
theorem dX12_atom_69 : decode cX12_atom 69 = .ok (.invokevirtual 394, 3) := by decide +kernel
theorem dX12_atom_72 : decode cX12_atom 72 = .ok (.ifCond .eq 12, 3) := by decide +kernel
theorem dX12_atom_75 : decode cX12_atom 75 = .ok (.aload_n 0, 1) := by decide +kernel
theorem dX12_atom_76 : decode cX12_atom 76 = .ok (.bipush 27, 2) := by decide +kernel
theorem dX12_atom_78 : decode cX12_atom 78 = .ok (.iconst 0, 1) := by decide +kernel
theorem dX12_atom_79 : decode cX12_atom 79 = .ok (.iconst 0, 1) := by decide +kernel
theorem dX12_atom_80 : decode cX12_atom 80 = .ok (.invokevirtual 605, 3) := by decide +kernel
theorem dX12_atom_83 : decode cX12_atom 83 = .ok (.ireturn, 1) := by decide +kernel
theorem dX12_atom_84 : decode cX12_atom 84 = .ok (.aload_n 0, 1) := by decide +kernel
theorem dX12_atom_85 : decode cX12_atom 85 = .ok (.bipush 13, 2) := by decide +kernel
theorem dX12_atom_87 : decode cX12_atom 87 = .ok (.invokevirtual 394, 3) := by decide +kernel
theorem dX12_atom_90 : decode cX12_atom 90 = .ok (.ifCond .eq 8, 3) := by decide +kernel
theorem dX12_atom_93 : decode cX12_atom 93 = .ok (.aload_n 0, 1) := by decide +kernel
theorem dX12_atom_94 : decode cX12_atom 94 = .ok (.invokevirtual 611, 3) := by decide +kernel
theorem dX12_atom_97 : decode cX12_atom 97 = .ok (.ireturn, 1) := by decide +kernel
theorem dX12_atom_98 : decode cX12_atom 98 = .ok (.aload_n 0, 1) := by decide +kernel
theorem dX12_atom_99 : decode cX12_atom 99 = .ok (.bipush 12, 2) := by decide +kernel
theorem dX12_atom_101 : decode cX12_atom 101 = .ok (.invokevirtual 394, 3) := by decide +kernel
theorem dX12_atom_104 : decode cX12_atom 104 = .ok (.ifCond .eq 8, 3) := by decide +kernel
theorem dX12_atom_107 : decode cX12_atom 107 = .ok (.aload_n 0, 1) := by decide +kernel
theorem dX12_atom_108 : decode cX12_atom 108 = .ok (.invokevirtual 614, 3) := by decide +kernel
theorem dX12_atom_111 : decode cX12_atom 111 = .ok (.ireturn, 1) := by decide +kernel
theorem dX12_atom_112 : decode cX12_atom 112 = .ok (.aload_n 0, 1) := by decide +kernel
theorem dX12_atom_113 : decode cX12_atom 113 = .ok (.bipush 17, 2) := by decide +kernel
theorem dX12_atom_115 : decode cX12_atom 115 = .ok (.invokevirtual 394, 3) := by decide +kernel
theorem dX12_atom_118 : decode cX12_atom 118 = .ok (.ifCond .ne 12, 3) := by decide +kernel
theorem dX12_atom_121 : decode cX12_atom 121 = .ok (.aload_n 0, 1) := by decide +kernel
theorem dX12_atom_122 : decode cX12_atom 122 = .ok (.bipush 18, 2) := by decide +kernel
theorem dX12_atom_124 : decode cX12_atom 124 = .ok (.invokevirtual 394, 3) := by decide +kernel
theorem dX12_atom_127 : decode cX12_atom 127 = .ok (.ifCond .eq 8, 3) := by decide +kernel
theorem dX12_atom_130 : decode cX12_atom 130 = .ok (.aload_n 0, 1) := by decide +kernel
theorem dX12_atom_131 : decode cX12_atom 131 = .ok (.invokevirtual 617, 3) := by decide +kernel
theorem dX12_atom_134 : decode cX12_atom 134 = .ok (.ireturn, 1) := by decide +kernel
theorem dX12_atom_135 : decode cX12_atom 135 = .ok (.iconst 0, 1) := by decide +kernel
theorem dX12_atom_136 : decode cX12_atom 136 = .ok (.istore_n 1, 1) := by decide +kernel
theorem dX12_atom_137 : decode cX12_atom 137 = .ok (.aload_n 0, 1) := by decide +kernel
theorem dX12_atom_138 : decode cX12_atom 138 = .ok (.bipush 123, 2) := by decide +kernel
theorem dX12_atom_140 : decode cX12_atom 140 = .ok (.invokevirtual 385, 3) := by decide +kernel
theorem dX12_atom_143 : decode cX12_atom 143 = .ok (.ifCond .eq 11, 3) := by decide +kernel
theorem dX12_atom_146 : decode cX12_atom 146 = .ok (.aload_n 0, 1) := by decide +kernel
theorem dX12_atom_147 : decode cX12_atom 147 = .ok (.invokevirtual 620, 3) := by decide +kernel
theorem dX12_atom_150 : decode cX12_atom 150 = .ok (.istore_n 1, 1) := by decide +kernel
theorem dX12_atom_151 : decode cX12_atom 151 = .ok (.goto 41, 3) := by decide +kernel
theorem dX12_atom_154 : decode cX12_atom 154 = .ok (.aload_n 0, 1) := by decide +kernel
theorem dX12_atom_155 : decode cX12_atom 155 = .ok (.bipush 40, 2) := by decide +kernel
theorem dX12_atom_157 : decode cX12_atom 157 = .ok (.invokevirtual 385, 3) := by decide +kernel
theorem dX12_atom_160 : decode cX12_atom 160 = .ok (.ifCond .eq 21, 3) := by decide +kernel
theorem dX12_atom_163 : decode cX12_atom 163 = .ok (.aload_n 0, 1) := by decide +kernel
theorem dX12_atom_164 : decode cX12_atom 164 = .ok (.invokevirtual 388, 3) := by decide +kernel
theorem dX12_atom_167 : decode cX12_atom 167 = .ok (.aload_n 0, 1) := by decide +kernel
theorem dX12_atom_168 : decode cX12_atom 168 = .ok (.invokevirtual 515, 3) := by decide +kernel
theorem dX12_atom_171 : decode cX12_atom 171 = .ok (.istore_n 1, 1) := by decide +kernel
theorem dX12_atom_172 : decode cX12_atom 172 = .ok (.aload_n 0, 1) := by decide +kernel
theorem dX12_atom_173 : decode cX12_atom 173 = .ok (.bipush 41, 2) := by decide +kernel
theorem dX12_atom_175 : decode cX12_atom 175 = .ok (.invokevirtual 479, 3) := by decide +kernel
theorem dX12_atom_178 : decode cX12_atom 178 = .ok (.goto 14, 3) := by decide +kernel
theorem dX12_atom_181 : decode cX12_atom 181 = .ok (.aload_n 0, 1) := by decide +kernel
theorem dX12_atom_182 : decode cX12_atom 182 = .ok (.invokevirtual 332, 3) := by decide +kernel
theorem dX12_atom_185 : decode cX12_atom 185 = .ok (.ifCond .eq 7, 3) := by decide +kernel
theorem dX12_atom_188 : decode cX12_atom 188 = .ok (.aload_n 0, 1) := by decide +kernel
theorem dX12_atom_189 : decode cX12_atom 189 = .ok (.invokevirtual 391, 3) := by decide +kernel
theorem dX12_atom_192 : decode cX12_atom 192 = .ok (.iload_n 1, 1) := by decide +kernel
theorem dX12_atom_193 : decode cX12_atom 193 = .ok (.ireturn, 1) := by decide +kernel
theorem dX12_simpleNumber_0 : decode cX12_simpleNumber 0 = .ok (.aload_n 0, 1) := by decide +kernel
theorem dX12_simpleNumber_1 : decode cX12_simpleNumber 1 = .ok (.iconst 0, 1) := by decide +kernel
theorem dX12_simpleNumber_2 : decode cX12_simpleNumber 2 = .ok (.aload_n 0, 1) := by decide +kernel
theorem dX12_simpleNumber_3 : decode cX12_simpleNumber 3 = .ok (.aload_n 0, 1) := by decide +kernel
theorem dX12_simpleNumber_4 : decode cX12_simpleNumber 4 = .ok (.getfield 369, 3) := by decide +kernel
theorem dX12_simpleNumber_7 : decode cX12_simpleNumber 7 = .ok (.invokevirtual 623, 3) := by decide +kernel
theorem dX12_simpleNumber_10 : decode cX12_simpleNumber 10 = .ok (.iconst 0, 1) := by decide +kernel
theorem dX12_simpleNumber_11 : decode cX12_simpleNumber 11 = .ok (.invokevirtual 555, 3) := by decide +kernel
theorem dX12_simpleNumber_14 : decode cX12_simpleNumber 14 = .ok (.istore_n 1, 1) := by decide +kernel
theorem dX12_simpleNumber_15 : decode cX12_simpleNumber 15 = .ok (.aload_n 0, 1) := by decide +kernel
theorem dX12_simpleNumber_16 : decode cX12_simpleNumber 16 = .ok (.invokevirtual 388, 3) := by decide +kernel
theorem dX12_simpleNumber_19 : decode cX12_simpleNumber 19 = .ok (.iload_n 1, 1) := by decide +kernel
theorem dX12_simpleNumber_20 : decode cX12_simpleNumber 20 = .ok (.ireturn, 1) := by decide +kernel
theorem dX12_captures_0 : decode cX12_captures 0 = .ok (.aload_n 0, 1) := by decide +kernel
theorem dX12_captures_1 : decode cX12_captures 1 = .ok (.getfield 421, 3) := by decide +kernel
theorem dX12_captures_4 : decode cX12_captures 4 = .ok (.istore_n 2, 1) := by decide +kernel
theorem dX12_captures_5 : decode cX12_captures 5 = .ok (.iload_n 2, 1) := by decide +kernel
theorem dX12_captures_6 : decode cX12_captures 6 = .ok (.aload_n 0, 1) := by decide +kernel
theorem dX12_captures_7 : decode cX12_captures 7 = .ok (.getfield 103, 3) := by decide +kernel
theorem dX12_captures_10 : decode cX12_captures 10 = .ok (.iload_n 1, 1) := by decide +kernel
theorem dX12_captures_11 : decode cX12_captures 11 = .ok (.iaload, 1) := by decide +kernel
theorem dX12_captures_12 : decode cX12_captures 12 = .ok (.if_icmp .eq 92, 3) := by decide +kernel
theorem dX12_captures_15 : decode cX12_captures 15 = .ok (.iconst 0, 1) := by decide +kernel
theorem dX12_captures_16 : decode cX12_captures 16 = .ok (.istore_n 3, 1) := by decide +kernel
theorem dX12_captures_17 : decode cX12_captures 17 = .ok (.iconst 0, 1) := by decide +kernel
theorem dX12_captures_18 : decode cX12_captures 18 = .ok (.istore 4, 2) := by decide +kernel
theorem dX12_captures_20 : decode cX12_captures 20 = .ok (.iload 4, 2) := by decide +kernel
theorem dX12_captures_22 : decode cX12_captures 22 = .ok (.aload_n 0, 1) := by decide +kernel
theorem dX12_captures_23 : decode cX12_captures 23 = .ok (.getfield 87, 3) := by decide +kernel
theorem dX12_captures_26 : decode cX12_captures 26 = .ok (.iload_n 2, 1) := by decide +kernel
theorem dX12_captures_27 : decode cX12_captures 27 = .ok (.iaload, 1) := by decide +kernel
theorem dX12_captures_28 : decode cX12_captures 28 = .ok (.if_icmp .ge 35, 3) := by decide +kernel
theorem dX12_captures_31 : decode cX12_captures 31 = .ok (.iload_n 3, 1) := by decide +kernel
theorem dX12_captures_32 : decode cX12_captures 32 = .ok (.ifCond .ne 19, 3) := by decide +kernel
theorem dX12_captures_35 : decode cX12_captures 35 = .ok (.aload_n 0, 1) := by decide +kernel
theorem dX12_captures_36 : decode cX12_captures 36 = .ok (.getfield 90, 3) := by decide +kernel
theorem dX12_captures_39 : decode cX12_captures 39 = .ok (.bipush 16, 2) := by decide +kernel
theorem dX12_captures_41 : decode cX12_captures 41 = .ok (.iload_n 2, 1) := by decide +kernel
theorem dX12_captures_42 : decode cX12_captures 42 = .ok (.imul, 1) := by decide +kernel
theorem dX12_captures_43 : decode cX12_captures 43 = .ok (.iload 4, 2) := by decide +kernel
theorem dX12_captures_45 : decode cX12_captures 45 = .ok (.iadd, 1) := by decide +kernel
theorem dX12_captures_46 : decode cX12_captures 46 = .ok (.iaload, 1) := by decide +kernel
theorem dX12_captures_47 : decode cX12_captures 47 = .ok (.iload_n 1, 1) := by decide +kernel
theorem dX12_captures_48 : decode cX12_captures 48 = .ok (.if_icmp .ne 7, 3) := by decide +kernel
theorem dX12_captures_51 : decode cX12_captures 51 = .ok (.iconst 1, 1) := by decide +kernel
theorem dX12_captures_52 : decode cX12_captures 52 = .ok (.goto 4, 3) := by decide +kernel
theorem dX12_captures_55 : decode cX12_captures 55 = .ok (.iconst 0, 1) := by decide +kernel
theorem dX12_captures_56 : decode cX12_captures 56 = .ok (.istore_n 3, 1) := by decide +kernel
theorem dX12_captures_57 : decode cX12_captures 57 = .ok (.iinc 4 1, 3) := by decide +kernel
theorem dX12_captures_60 : decode cX12_captures 60 = .ok (.goto (-40), 3) := by decide +kernel
theorem dX12_captures_63 : decode cX12_captures 63 = .ok (.iload_n 3, 1) := by decide +kernel
theorem dX12_captures_64 : decode cX12_captures 64 = .ok (.ifCond .ne 30, 3) := by decide +kernel
theorem dX12_captures_67 : decode cX12_captures 67 = .ok (.aload_n 0, 1) := by decide +kernel
theorem dX12_captures_68 : decode cX12_captures 68 = .ok (.getfield 90, 3) := by decide +kernel
theorem dX12_captures_71 : decode cX12_captures 71 = .ok (.bipush 16, 2) := by decide +kernel
theorem dX12_captures_73 : decode cX12_captures 73 = .ok (.iload_n 2, 1) := by decide +kernel
theorem dX12_captures_74 : decode cX12_captures 74 = .ok (.imul, 1) := by decide +kernel
theorem dX12_captures_75 : decode cX12_captures 75 = .ok (.aload_n 0, 1) := by decide +kernel
theorem dX12_captures_76 : decode cX12_captures 76 = .ok (.getfield 87, 3) := by decide +kernel
theorem dX12_captures_79 : decode cX12_captures 79 = .ok (.iload_n 2, 1) := by decide +kernel
theorem dX12_captures_80 : decode cX12_captures 80 = .ok (.iaload, 1) := by decide +kernel
theorem dX12_captures_81 : decode cX12_captures 81 = .ok (.iadd, 1) := by decide +kernel
theorem dX12_captures_82 : decode cX12_captures 82 = .ok (.iload_n 1, 1) := by decide +kernel
theorem dX12_captures_83 : decode cX12_captures 83 = .ok (.iastore, 1) := by decide +kernel
theorem dX12_captures_84 : decode cX12_captures 84 = .ok (.aload_n 0, 1) := by decide +kernel
theorem dX12_captures_85 : decode cX12_captures 85 = .ok (.getfield 87, 3) := by decide +kernel
theorem dX12_captures_88 : decode cX12_captures 88 = .ok (.iload_n 2, 1) := by decide +kernel
theorem dX12_captures_89 : decode cX12_captures 89 = .ok (.dup2, 1) := by decide +kernel
theorem dX12_captures_90 : decode cX12_captures 90 = .ok (.iaload, 1) := by decide +kernel
theorem dX12_captures_91 : decode cX12_captures 91 = .ok (.iconst 1, 1) := by decide +kernel
theorem dX12_captures_92 : decode cX12_captures 92 = .ok (.iadd, 1) := by decide +kernel
theorem dX12_captures_93 : decode cX12_captures 93 = .ok (.iastore, 1) := by decide +kernel
theorem dX12_captures_94 : decode cX12_captures 94 = .ok (.aload_n 0, 1) := by decide +kernel
theorem dX12_captures_95 : decode cX12_captures 95 = .ok (.getfield 75, 3) := by decide +kernel
theorem dX12_captures_98 : decode cX12_captures 98 = .ok (.iload_n 2, 1) := by decide +kernel
theorem dX12_captures_99 : decode cX12_captures 99 = .ok (.iaload, 1) := by decide +kernel
theorem dX12_captures_100 : decode cX12_captures 100 = .ok (.istore_n 2, 1) := by decide +kernel
theorem dX12_captures_101 : decode cX12_captures 101 = .ok (.goto (-96), 3) := by decide +kernel
theorem dX12_captures_104 : decode cX12_captures 104 = .ok (.return_, 1) := by decide +kernel
theorem dX12_variable_0 : decode cX12_variable 0 = .ok (.iconst (-1), 1) := by decide +kernel
theorem dX12_variable_1 : decode cX12_variable 1 = .ok (.istore_n 1, 1) := by decide +kernel
theorem dX12_variable_2 : decode cX12_variable 2 = .ok (.aload_n 0, 1) := by decide +kernel
theorem dX12_variable_3 : decode cX12_variable 3 = .ok (.getfield 446, 3) := by decide +kernel
theorem dX12_variable_6 : decode cX12_variable 6 = .ok (.iconst 1, 1) := by decide +kernel
theorem dX12_variable_7 : decode cX12_variable 7 = .ok (.isub, 1) := by decide +kernel
theorem dX12_variable_8 : decode cX12_variable 8 = .ok (.istore_n 2, 1) := by decide +kernel
theorem dX12_variable_9 : decode cX12_variable 9 = .ok (.iload_n 2, 1) := by decide +kernel
theorem dX12_variable_10 : decode cX12_variable 10 = .ok (.ifCond .lt 44, 3) := by decide +kernel
theorem dX12_variable_13 : decode cX12_variable 13 = .ok (.iload_n 1, 1) := by decide +kernel
theorem dX12_variable_14 : decode cX12_variable 14 = .ok (.iconst (-1), 1) := by decide +kernel
theorem dX12_variable_15 : decode cX12_variable 15 = .ok (.if_icmp .ne 39, 3) := by decide +kernel
theorem dX12_variable_18 : decode cX12_variable 18 = .ok (.aload_n 0, 1) := by decide +kernel
theorem dX12_variable_19 : decode cX12_variable 19 = .ok (.getfield 106, 3) := by decide +kernel
theorem dX12_variable_22 : decode cX12_variable 22 = .ok (.aload_n 0, 1) := by decide +kernel
theorem dX12_variable_23 : decode cX12_variable 23 = .ok (.getfield 118, 3) := by decide +kernel
theorem dX12_variable_26 : decode cX12_variable 26 = .ok (.iload_n 2, 1) := by decide +kernel
theorem dX12_variable_27 : decode cX12_variable 27 = .ok (.iaload, 1) := by decide +kernel
theorem dX12_variable_28 : decode cX12_variable 28 = .ok (.laload, 1) := by decide +kernel
theorem dX12_variable_29 : decode cX12_variable 29 = .ok (.aload_n 0, 1) := by decide +kernel
theorem dX12_variable_30 : decode cX12_variable 30 = .ok (.getfield 358, 3) := by decide +kernel
theorem dX12_variable_33 : decode cX12_variable 33 = .ok (.lcmp, 1) := by decide +kernel
theorem dX12_variable_34 : decode cX12_variable 34 = .ok (.ifCond .ne 12, 3) := by decide +kernel
theorem dX12_variable_37 : decode cX12_variable 37 = .ok (.aload_n 0, 1) := by decide +kernel
theorem dX12_variable_38 : decode cX12_variable 38 = .ok (.getfield 118, 3) := by decide +kernel
theorem dX12_variable_41 : decode cX12_variable 41 = .ok (.iload_n 2, 1) := by decide +kernel
theorem dX12_variable_42 : decode cX12_variable 42 = .ok (.iaload, 1) := by decide +kernel
theorem dX12_variable_43 : decode cX12_variable 43 = .ok (.goto 4, 3) := by decide +kernel
theorem dX12_variable_46 : decode cX12_variable 46 = .ok (.iconst (-1), 1) := by decide +kernel
theorem dX12_variable_47 : decode cX12_variable 47 = .ok (.istore_n 1, 1) := by decide +kernel
theorem dX12_variable_48 : decode cX12_variable 48 = .ok (.iinc 2 (-1), 3) := by decide +kernel
theorem dX12_variable_51 : decode cX12_variable 51 = .ok (.goto (-42), 3) := by decide +kernel
theorem dX12_variable_54 : decode cX12_variable 54 = .ok (.aload_n 0, 1) := by decide +kernel
theorem dX12_variable_55 : decode cX12_variable 55 = .ok (.getfield 455, 3) := by decide +kernel
theorem dX12_variable_58 : decode cX12_variable 58 = .ok (.sipush 400, 3) := by decide +kernel
theorem dX12_variable_61 : decode cX12_variable 61 = .ok (.if_icmp .ne 10, 3) := by decide +kernel
theorem dX12_variable_64 : decode cX12_variable 64 = .ok (.aload_n 0, 1) := by decide +kernel
theorem dX12_variable_65 : decode cX12_variable 65 = .ok (.iconst 4, 1) := by decide +kernel
theorem dX12_variable_66 : decode cX12_variable 66 = .ok (.invokevirtual 362, 3) := by decide +kernel
theorem dX12_variable_69 : decode cX12_variable 69 = .ok (.iconst 0, 1) := by decide +kernel
theorem dX12_variable_70 : decode cX12_variable 70 = .ok (.ireturn, 1) := by decide +kernel
theorem dX12_variable_71 : decode cX12_variable 71 = .ok (.iload_n 1, 1) := by decide +kernel
theorem dX12_variable_72 : decode cX12_variable 72 = .ok (.iconst (-1), 1) := by decide +kernel
theorem dX12_variable_73 : decode cX12_variable 73 = .ok (.if_icmp .ne 10, 3) := by decide +kernel
theorem dX12_variable_76 : decode cX12_variable 76 = .ok (.aload_n 0, 1) := by decide +kernel
theorem dX12_variable_77 : decode cX12_variable 77 = .ok (.iconst 3, 1) := by decide +kernel
theorem dX12_variable_78 : decode cX12_variable 78 = .ok (.invokevirtual 362, 3) := by decide +kernel
theorem dX12_variable_81 : decode cX12_variable 81 = .ok (.iconst 0, 1) := by decide +kernel
theorem dX12_variable_82 : decode cX12_variable 82 = .ok (.ireturn, 1) := by decide +kernel
theorem dX12_variable_83 : decode cX12_variable 83 = .ok (.aload_n 0, 1) := by decide +kernel
theorem dX12_variable_84 : decode cX12_variable 84 = .ok (.iload_n 1, 1) := by decide +kernel
theorem dX12_variable_85 : decode cX12_variable 85 = .ok (.invokevirtual 626, 3) := by decide +kernel
theorem dX12_variable_88 : decode cX12_variable 88 = .ok (.aload_n 0, 1) := by decide +kernel
theorem dX12_variable_89 : decode cX12_variable 89 = .ok (.iconst 2, 1) := by decide +kernel
theorem dX12_variable_90 : decode cX12_variable 90 = .ok (.iload_n 1, 1) := by decide +kernel
theorem dX12_variable_91 : decode cX12_variable 91 = .ok (.iconst 0, 1) := by decide +kernel
theorem dX12_variable_92 : decode cX12_variable 92 = .ok (.invokevirtual 605, 3) := by decide +kernel
theorem dX12_variable_95 : decode cX12_variable 95 = .ok (.ireturn, 1) := by decide +kernel
theorem dX12_selfAtom_0 : decode cX12_selfAtom 0 = .ok (.aload_n 0, 1) := by decide +kernel
theorem dX12_selfAtom_1 : decode cX12_selfAtom 1 = .ok (.getfield 421, 3) := by decide +kernel
theorem dX12_selfAtom_4 : decode cX12_selfAtom 4 = .ok (.istore_n 1, 1) := by decide +kernel
theorem dX12_selfAtom_5 : decode cX12_selfAtom 5 = .ok (.aload_n 0, 1) := by decide +kernel
theorem dX12_selfAtom_6 : decode cX12_selfAtom 6 = .ok (.getfield 75, 3) := by decide +kernel
theorem dX12_selfAtom_9 : decode cX12_selfAtom 9 = .ok (.iload_n 1, 1) := by decide +kernel
theorem dX12_selfAtom_10 : decode cX12_selfAtom 10 = .ok (.iaload, 1) := by decide +kernel
theorem dX12_selfAtom_11 : decode cX12_selfAtom 11 = .ok (.iconst (-1), 1) := by decide +kernel
theorem dX12_selfAtom_12 : decode cX12_selfAtom 12 = .ok (.if_icmp .eq 13, 3) := by decide +kernel
theorem dX12_selfAtom_15 : decode cX12_selfAtom 15 = .ok (.aload_n 0, 1) := by decide +kernel
theorem dX12_selfAtom_16 : decode cX12_selfAtom 16 = .ok (.getfield 75, 3) := by decide +kernel
theorem dX12_selfAtom_19 : decode cX12_selfAtom 19 = .ok (.iload_n 1, 1) := by decide +kernel
theorem dX12_selfAtom_20 : decode cX12_selfAtom 20 = .ok (.iaload, 1) := by decide +kernel
theorem dX12_selfAtom_21 : decode cX12_selfAtom 21 = .ok (.istore_n 1, 1) := by decide +kernel
theorem dX12_selfAtom_22 : decode cX12_selfAtom 22 = .ok (.goto (-17), 3) := by decide +kernel
theorem dX12_selfAtom_25 : decode cX12_selfAtom 25 = .ok (.aload_n 0, 1) := by decide +kernel
theorem dX12_selfAtom_26 : decode cX12_selfAtom 26 = .ok (.getfield 455, 3) := by decide +kernel
theorem dX12_selfAtom_29 : decode cX12_selfAtom 29 = .ok (.sipush 400, 3) := by decide +kernel
theorem dX12_selfAtom_32 : decode cX12_selfAtom 32 = .ok (.if_icmp .ne 10, 3) := by decide +kernel
theorem dX12_selfAtom_35 : decode cX12_selfAtom 35 = .ok (.aload_n 0, 1) := by decide +kernel
theorem dX12_selfAtom_36 : decode cX12_selfAtom 36 = .ok (.iconst 4, 1) := by decide +kernel
theorem dX12_selfAtom_37 : decode cX12_selfAtom 37 = .ok (.invokevirtual 362, 3) := by decide +kernel
theorem dX12_selfAtom_40 : decode cX12_selfAtom 40 = .ok (.iconst 0, 1) := by decide +kernel
theorem dX12_selfAtom_41 : decode cX12_selfAtom 41 = .ok (.ireturn, 1) := by decide +kernel
theorem dX12_selfAtom_42 : decode cX12_selfAtom 42 = .ok (.aload_n 0, 1) := by decide +kernel
theorem dX12_selfAtom_43 : decode cX12_selfAtom 43 = .ok (.aload_n 0, 1) := by decide +kernel
theorem dX12_selfAtom_44 : decode cX12_selfAtom 44 = .ok (.getfield 115, 3) := by decide +kernel
theorem dX12_selfAtom_47 : decode cX12_selfAtom 47 = .ok (.iload_n 1, 1) := by decide +kernel
theorem dX12_selfAtom_48 : decode cX12_selfAtom 48 = .ok (.iaload, 1) := by decide +kernel
theorem dX12_selfAtom_49 : decode cX12_selfAtom 49 = .ok (.invokevirtual 626, 3) := by decide +kernel
theorem dX12_selfAtom_52 : decode cX12_selfAtom 52 = .ok (.aload_n 0, 1) := by decide +kernel
theorem dX12_selfAtom_53 : decode cX12_selfAtom 53 = .ok (.iconst 2, 1) := by decide +kernel
theorem dX12_selfAtom_54 : decode cX12_selfAtom 54 = .ok (.aload_n 0, 1) := by decide +kernel
theorem dX12_selfAtom_55 : decode cX12_selfAtom 55 = .ok (.getfield 115, 3) := by decide +kernel
theorem dX12_selfAtom_58 : decode cX12_selfAtom 58 = .ok (.iload_n 1, 1) := by decide +kernel
theorem dX12_selfAtom_59 : decode cX12_selfAtom 59 = .ok (.iaload, 1) := by decide +kernel
theorem dX12_selfAtom_60 : decode cX12_selfAtom 60 = .ok (.iconst 0, 1) := by decide +kernel
theorem dX12_selfAtom_61 : decode cX12_selfAtom 61 = .ok (.invokevirtual 605, 3) := by decide +kernel
theorem dX12_selfAtom_64 : decode cX12_selfAtom 64 = .ok (.ireturn, 1) := by decide +kernel
theorem dX12_newAtom_0 : decode cX12_newAtom 0 = .ok (.aload_n 0, 1) := by decide +kernel
theorem dX12_newAtom_1 : decode cX12_newAtom 1 = .ok (.invokevirtual 552, 3) := by decide +kernel
theorem dX12_newAtom_4 : decode cX12_newAtom 4 = .ok (.ifCond .ne 5, 3) := by decide +kernel
theorem dX12_newAtom_7 : decode cX12_newAtom 7 = .ok (.iconst 0, 1) := by decide +kernel
theorem dX12_newAtom_8 : decode cX12_newAtom 8 = .ok (.ireturn, 1) := by decide +kernel
theorem dX12_newAtom_9 : decode cX12_newAtom 9 = .ok (.aload_n 0, 1) := by decide +kernel
theorem dX12_newAtom_10 : decode cX12_newAtom 10 = .ok (.invokevirtual 388, 3) := by decide +kernel
theorem dX12_newAtom_13 : decode cX12_newAtom 13 = .ok (.aload_n 0, 1) := by decide +kernel
theorem dX12_newAtom_14 : decode cX12_newAtom 14 = .ok (.invokevirtual 400, 3) := by decide +kernel
theorem dX12_newAtom_17 : decode cX12_newAtom 17 = .ok (.ifCond .ne 5, 3) := by decide +kernel
theorem dX12_newAtom_20 : decode cX12_newAtom 20 = .ok (.iconst 0, 1) := by decide +kernel
theorem dX12_newAtom_21 : decode cX12_newAtom 21 = .ok (.ireturn, 1) := by decide +kernel
theorem dX12_newAtom_22 : decode cX12_newAtom 22 = .ok (.aload_n 0, 1) := by decide +kernel
theorem dX12_newAtom_23 : decode cX12_newAtom 23 = .ok (.aload_n 0, 1) := by decide +kernel
theorem dX12_newAtom_24 : decode cX12_newAtom 24 = .ok (.getfield 358, 3) := by decide +kernel
theorem dX12_newAtom_27 : decode cX12_newAtom 27 = .ok (.invokevirtual 488, 3) := by decide +kernel
theorem dX12_newAtom_30 : decode cX12_newAtom 30 = .ok (.istore_n 1, 1) := by decide +kernel
theorem dX12_newAtom_31 : decode cX12_newAtom 31 = .ok (.iload_n 1, 1) := by decide +kernel
theorem dX12_newAtom_32 : decode cX12_newAtom 32 = .ok (.iconst (-1), 1) := by decide +kernel
theorem dX12_newAtom_33 : decode cX12_newAtom 33 = .ok (.if_icmp .ne 10, 3) := by decide +kernel
theorem dX12_newAtom_36 : decode cX12_newAtom 36 = .ok (.aload_n 0, 1) := by decide +kernel
theorem dX12_newAtom_37 : decode cX12_newAtom 37 = .ok (.iconst 3, 1) := by decide +kernel
theorem dX12_newAtom_38 : decode cX12_newAtom 38 = .ok (.invokevirtual 362, 3) := by decide +kernel
theorem dX12_newAtom_41 : decode cX12_newAtom 41 = .ok (.iconst 0, 1) := by decide +kernel
theorem dX12_newAtom_42 : decode cX12_newAtom 42 = .ok (.ireturn, 1) := by decide +kernel
theorem dX12_newAtom_43 : decode cX12_newAtom 43 = .ok (.aload_n 0, 1) := by decide +kernel
theorem dX12_newAtom_44 : decode cX12_newAtom 44 = .ok (.iconst 4, 1) := by decide +kernel
theorem dX12_newAtom_45 : decode cX12_newAtom 45 = .ok (.iload_n 1, 1) := by decide +kernel
theorem dX12_newAtom_46 : decode cX12_newAtom 46 = .ok (.iconst 0, 1) := by decide +kernel
theorem dX12_newAtom_47 : decode cX12_newAtom 47 = .ok (.invokevirtual 555, 3) := by decide +kernel
theorem dX12_newAtom_50 : decode cX12_newAtom 50 = .ok (.istore_n 2, 1) := by decide +kernel
theorem dX12_newAtom_51 : decode cX12_newAtom 51 = .ok (.aload_n 0, 1) := by decide +kernel
theorem dX12_newAtom_52 : decode cX12_newAtom 52 = .ok (.invokevirtual 388, 3) := by decide +kernel
theorem dX12_newAtom_55 : decode cX12_newAtom 55 = .ok (.iload_n 2, 1) := by decide +kernel
theorem dX12_newAtom_56 : decode cX12_newAtom 56 = .ok (.ireturn, 1) := by decide +kernel
theorem dX12_fun_0 : decode cX12_fun 0 = .ok (.aload_n 0, 1) := by decide +kernel
theorem dX12_fun_1 : decode cX12_fun 1 = .ok (.invokevirtual 552, 3) := by decide +kernel
theorem dX12_fun_4 : decode cX12_fun 4 = .ok (.ifCond .ne 5, 3) := by decide +kernel
theorem dX12_fun_7 : decode cX12_fun 7 = .ok (.iconst 0, 1) := by decide +kernel
theorem dX12_fun_8 : decode cX12_fun 8 = .ok (.ireturn, 1) := by decide +kernel
theorem dX12_fun_9 : decode cX12_fun 9 = .ok (.aload_n 0, 1) := by decide +kernel
theorem dX12_fun_10 : decode cX12_fun 10 = .ok (.iconst 1, 1) := by decide +kernel
theorem dX12_fun_11 : decode cX12_fun 11 = .ok (.aload_n 0, 1) := by decide +kernel
theorem dX12_fun_12 : decode cX12_fun 12 = .ok (.getfield 66, 3) := by decide +kernel
theorem dX12_fun_15 : decode cX12_fun 15 = .ok (.aload_n 0, 1) := by decide +kernel
theorem dX12_fun_16 : decode cX12_fun 16 = .ok (.getfield 421, 3) := by decide +kernel
theorem dX12_fun_19 : decode cX12_fun 19 = .ok (.iaload, 1) := by decide +kernel
theorem dX12_fun_20 : decode cX12_fun 20 = .ok (.aload_n 0, 1) := by decide +kernel
theorem dX12_fun_21 : decode cX12_fun 21 = .ok (.getfield 421, 3) := by decide +kernel
theorem dX12_fun_24 : decode cX12_fun 24 = .ok (.invokevirtual 504, 3) := by decide +kernel
theorem dX12_fun_27 : decode cX12_fun 27 = .ok (.istore_n 1, 1) := by decide +kernel
theorem dX12_fun_28 : decode cX12_fun 28 = .ok (.aload_n 0, 1) := by decide +kernel
theorem dX12_fun_29 : decode cX12_fun 29 = .ok (.bipush 9, 2) := by decide +kernel
theorem dX12_fun_31 : decode cX12_fun 31 = .ok (.iload_n 1, 1) := by decide +kernel
theorem dX12_fun_32 : decode cX12_fun 32 = .ok (.iconst 0, 1) := by decide +kernel
theorem dX12_fun_33 : decode cX12_fun 33 = .ok (.invokevirtual 555, 3) := by decide +kernel
theorem dX12_fun_36 : decode cX12_fun 36 = .ok (.istore_n 2, 1) := by decide +kernel
theorem dX12_fun_37 : decode cX12_fun 37 = .ok (.aload_n 0, 1) := by decide +kernel
theorem dX12_fun_38 : decode cX12_fun 38 = .ok (.invokevirtual 388, 3) := by decide +kernel
theorem dX12_fun_41 : decode cX12_fun 41 = .ok (.aload_n 0, 1) := by decide +kernel
theorem dX12_fun_42 : decode cX12_fun 42 = .ok (.getfield 446, 3) := by decide +kernel
theorem dX12_fun_45 : decode cX12_fun 45 = .ok (.istore_n 3, 1) := by decide +kernel
theorem dX12_fun_46 : decode cX12_fun 46 = .ok (.aload_n 0, 1) := by decide +kernel
theorem dX12_fun_47 : decode cX12_fun 47 = .ok (.iload_n 1, 1) := by decide +kernel
theorem dX12_fun_48 : decode cX12_fun 48 = .ok (.iconst 0, 1) := by decide +kernel
theorem dX12_fun_49 : decode cX12_fun 49 = .ok (.invokevirtual 512, 3) := by decide +kernel
theorem dX12_fun_52 : decode cX12_fun 52 = .ok (.aload_n 0, 1) := by decide +kernel
theorem dX12_fun_53 : decode cX12_fun 53 = .ok (.bipush 41, 2) := by decide +kernel
theorem dX12_fun_55 : decode cX12_fun 55 = .ok (.invokevirtual 479, 3) := by decide +kernel
theorem dX12_fun_58 : decode cX12_fun 58 = .ok (.aload_n 0, 1) := by decide +kernel
theorem dX12_fun_59 : decode cX12_fun 59 = .ok (.invokevirtual 332, 3) := by decide +kernel
theorem dX12_fun_62 : decode cX12_fun 62 = .ok (.ifCond .eq 16, 3) := by decide +kernel
theorem dX12_fun_65 : decode cX12_fun 65 = .ok (.aload_n 0, 1) := by decide +kernel
theorem dX12_fun_66 : decode cX12_fun 66 = .ok (.bipush 123, 2) := by decide +kernel
theorem dX12_fun_68 : decode cX12_fun 68 = .ok (.invokevirtual 385, 3) := by decide +kernel
theorem dX12_fun_71 : decode cX12_fun 71 = .ok (.ifCond .ne 7, 3) := by decide +kernel
theorem dX12_fun_74 : decode cX12_fun 74 = .ok (.aload_n 0, 1) := by decide +kernel
theorem dX12_fun_75 : decode cX12_fun 75 = .ok (.invokevirtual 391, 3) := by decide +kernel
theorem dX12_fun_78 : decode cX12_fun 78 = .ok (.aload_n 0, 1) := by decide +kernel
theorem dX12_fun_79 : decode cX12_fun 79 = .ok (.invokevirtual 332, 3) := by decide +kernel
theorem dX12_fun_82 : decode cX12_fun 82 = .ok (.ifCond .ne 5, 3) := by decide +kernel
theorem dX12_fun_85 : decode cX12_fun 85 = .ok (.iload_n 2, 1) := by decide +kernel
theorem dX12_fun_86 : decode cX12_fun 86 = .ok (.ireturn, 1) := by decide +kernel
theorem dX12_fun_87 : decode cX12_fun 87 = .ok (.aload_n 0, 1) := by decide +kernel
