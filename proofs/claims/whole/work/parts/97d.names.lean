theorem dX3_anyHas_13 : decode cX3_anyHas 13 = .ok (.iload_n 1, 1) := by decide +kernel
theorem dX3_anyHas_14 : decode cX3_anyHas 14 = .ok (.iload_n 2, 1) := by decide +kernel
theorem dX3_anyHas_15 : decode cX3_anyHas 15 = .ok (.iadd, 1) := by decide +kernel
theorem dX3_anyHas_16 : decode cX3_anyHas 16 = .ok (.if_icmp .ge 56, 3) := by decide +kernel
theorem dX3_anyHas_19 : decode cX3_anyHas 19 = .ok (.iload 5, 2) := by decide +kernel
theorem dX3_anyHas_21 : decode cX3_anyHas 21 = .ok (.sipush 160, 3) := by decide +kernel
theorem dX3_anyHas_24 : decode cX3_anyHas 24 = .ok (.if_icmp .ge 48, 3) := by decide +kernel
theorem dX3_anyHas_27 : decode cX3_anyHas 27 = .ok (.aload_n 0, 1) := by decide +kernel
theorem dX3_anyHas_28 : decode cX3_anyHas 28 = .ok (.getfield 19, 3) := by decide +kernel
theorem dX3_anyHas_31 : decode cX3_anyHas 31 = .ok (.iload 5, 2) := by decide +kernel
theorem dX3_anyHas_33 : decode cX3_anyHas 33 = .ok (.aaload, 1) := by decide +kernel
theorem dX3_anyHas_34 : decode cX3_anyHas 34 = .ok (.getfield 81, 3) := by decide +kernel
theorem dX3_anyHas_37 : decode cX3_anyHas 37 = .ok (.aload_n 3, 1) := by decide +kernel
theorem dX3_anyHas_38 : decode cX3_anyHas 38 = .ok (.getfield 81, 3) := by decide +kernel
theorem dX3_anyHas_41 : decode cX3_anyHas 41 = .ok (.lcmp, 1) := by decide +kernel
theorem dX3_anyHas_42 : decode cX3_anyHas 42 = .ok (.ifCond .ne 21, 3) := by decide +kernel
theorem dX3_anyHas_45 : decode cX3_anyHas 45 = .ok (.aload_n 0, 1) := by decide +kernel
theorem dX3_anyHas_46 : decode cX3_anyHas 46 = .ok (.getfield 19, 3) := by decide +kernel
theorem dX3_anyHas_49 : decode cX3_anyHas 49 = .ok (.iload 5, 2) := by decide +kernel
theorem dX3_anyHas_51 : decode cX3_anyHas 51 = .ok (.aaload, 1) := by decide +kernel
theorem dX3_anyHas_52 : decode cX3_anyHas 52 = .ok (.aload_n 3, 1) := by decide +kernel
theorem dX3_anyHas_53 : decode cX3_anyHas 53 = .ok (.invokevirtual 73, 3) := by decide +kernel
theorem dX3_anyHas_56 : decode cX3_anyHas 56 = .ok (.ifCond .eq 7, 3) := by decide +kernel
theorem dX3_anyHas_59 : decode cX3_anyHas 59 = .ok (.iconst 1, 1) := by decide +kernel
theorem dX3_anyHas_60 : decode cX3_anyHas 60 = .ok (.goto 4, 3) := by decide +kernel
theorem dX3_anyHas_63 : decode cX3_anyHas 63 = .ok (.iconst 0, 1) := by decide +kernel
theorem dX3_anyHas_64 : decode cX3_anyHas 64 = .ok (.istore 4, 2) := by decide +kernel
theorem dX3_anyHas_66 : decode cX3_anyHas 66 = .ok (.iinc 5 1, 3) := by decide +kernel
theorem dX3_anyHas_69 : decode cX3_anyHas 69 = .ok (.goto (-63), 3) := by decide +kernel
theorem dX3_anyHas_72 : decode cX3_anyHas 72 = .ok (.iload 4, 2) := by decide +kernel
theorem dX3_anyHas_74 : decode cX3_anyHas 74 = .ok (.ireturn, 1) := by decide +kernel
theorem dX3_settleAskings_0 : decode cX3_settleAskings 0 = .ok (.iconst 0, 1) := by decide +kernel
theorem dX3_settleAskings_1 : decode cX3_settleAskings 1 = .ok (.istore_n 1, 1) := by decide +kernel
theorem dX3_settleAskings_2 : decode cX3_settleAskings 2 = .ok (.iload_n 1, 1) := by decide +kernel
theorem dX3_settleAskings_3 : decode cX3_settleAskings 3 = .ok (.aload_n 0, 1) := by decide +kernel
theorem dX3_settleAskings_4 : decode cX3_settleAskings 4 = .ok (.getfield 62, 3) := by decide +kernel
theorem dX3_settleAskings_7 : decode cX3_settleAskings 7 = .ok (.if_icmp .ge 34, 3) := by decide +kernel
theorem dX3_settleAskings_10 : decode cX3_settleAskings 10 = .ok (.aload_n 0, 1) := by decide +kernel
theorem dX3_settleAskings_11 : decode cX3_settleAskings 11 = .ok (.getfield 38, 3) := by decide +kernel
theorem dX3_settleAskings_14 : decode cX3_settleAskings 14 = .ok (.iload_n 1, 1) := by decide +kernel
theorem dX3_settleAskings_15 : decode cX3_settleAskings 15 = .ok (.baload, 1) := by decide +kernel
theorem dX3_settleAskings_16 : decode cX3_settleAskings 16 = .ok (.ifCond .ne 19, 3) := by decide +kernel
theorem dX3_settleAskings_19 : decode cX3_settleAskings 19 = .ok (.aload_n 0, 1) := by decide +kernel
theorem dX3_settleAskings_20 : decode cX3_settleAskings 20 = .ok (.getfield 42, 3) := by decide +kernel
theorem dX3_settleAskings_23 : decode cX3_settleAskings 23 = .ok (.iload_n 1, 1) := by decide +kernel
theorem dX3_settleAskings_24 : decode cX3_settleAskings 24 = .ok (.aload_n 0, 1) := by decide +kernel
theorem dX3_settleAskings_25 : decode cX3_settleAskings 25 = .ok (.aload_n 0, 1) := by decide +kernel
theorem dX3_settleAskings_26 : decode cX3_settleAskings 26 = .ok (.getfield 35, 3) := by decide +kernel
theorem dX3_settleAskings_29 : decode cX3_settleAskings 29 = .ok (.iload_n 1, 1) := by decide +kernel
theorem dX3_settleAskings_30 : decode cX3_settleAskings 30 = .ok (.aaload, 1) := by decide +kernel
theorem dX3_settleAskings_31 : decode cX3_settleAskings 31 = .ok (.invokevirtual 85, 3) := by decide +kernel
theorem dX3_settleAskings_34 : decode cX3_settleAskings 34 = .ok (.iastore, 1) := by decide +kernel
theorem dX3_settleAskings_35 : decode cX3_settleAskings 35 = .ok (.iinc 1 1, 3) := by decide +kernel
theorem dX3_settleAskings_38 : decode cX3_settleAskings 38 = .ok (.goto (-36), 3) := by decide +kernel
theorem dX3_settleAskings_41 : decode cX3_settleAskings 41 = .ok (.return_, 1) := by decide +kernel
theorem dX3_holdersOf_0 : decode cX3_holdersOf 0 = .ok (.iload_n 1, 1) := by decide +kernel
theorem dX3_holdersOf_1 : decode cX3_holdersOf 1 = .ok (.ifCond .lt 20, 3) := by decide +kernel
theorem dX3_holdersOf_4 : decode cX3_holdersOf 4 = .ok (.iload_n 1, 1) := by decide +kernel
theorem dX3_holdersOf_5 : decode cX3_holdersOf 5 = .ok (.aload_n 0, 1) := by decide +kernel
theorem dX3_holdersOf_6 : decode cX3_holdersOf 6 = .ok (.getfield 62, 3) := by decide +kernel
theorem dX3_holdersOf_9 : decode cX3_holdersOf 9 = .ok (.if_icmp .ge 12, 3) := by decide +kernel
theorem dX3_holdersOf_12 : decode cX3_holdersOf 12 = .ok (.aload_n 0, 1) := by decide +kernel
theorem dX3_holdersOf_13 : decode cX3_holdersOf 13 = .ok (.getfield 42, 3) := by decide +kernel
theorem dX3_holdersOf_16 : decode cX3_holdersOf 16 = .ok (.iload_n 1, 1) := by decide +kernel
theorem dX3_holdersOf_17 : decode cX3_holdersOf 17 = .ok (.iaload, 1) := by decide +kernel
theorem dX3_holdersOf_18 : decode cX3_holdersOf 18 = .ok (.goto 4, 3) := by decide +kernel
theorem dX3_holdersOf_21 : decode cX3_holdersOf 21 = .ok (.iconst 0, 1) := by decide +kernel
theorem dX3_holdersOf_22 : decode cX3_holdersOf 22 = .ok (.ireturn, 1) := by decide +kernel
theorem dX3_aim_0 : decode cX3_aim 0 = .ok (.iload_n 1, 1) := by decide +kernel
theorem dX3_aim_1 : decode cX3_aim 1 = .ok (.ifCond .lt 32, 3) := by decide +kernel
theorem dX3_aim_4 : decode cX3_aim 4 = .ok (.iload_n 1, 1) := by decide +kernel
theorem dX3_aim_5 : decode cX3_aim 5 = .ok (.aload_n 0, 1) := by decide +kernel
theorem dX3_aim_6 : decode cX3_aim 6 = .ok (.getfield 62, 3) := by decide +kernel
theorem dX3_aim_9 : decode cX3_aim 9 = .ok (.if_icmp .ge 24, 3) := by decide +kernel
theorem dX3_aim_12 : decode cX3_aim 12 = .ok (.aload_n 0, 1) := by decide +kernel
theorem dX3_aim_13 : decode cX3_aim 13 = .ok (.getfield 48, 3) := by decide +kernel
theorem dX3_aim_16 : decode cX3_aim 16 = .ok (.aload_n 0, 1) := by decide +kernel
theorem dX3_aim_17 : decode cX3_aim 17 = .ok (.getfield 35, 3) := by decide +kernel
theorem dX3_aim_20 : decode cX3_aim 20 = .ok (.iload_n 1, 1) := by decide +kernel
theorem dX3_aim_21 : decode cX3_aim 21 = .ok (.aaload, 1) := by decide +kernel
theorem dX3_aim_22 : decode cX3_aim 22 = .ok (.invokevirtual 65, 3) := by decide +kernel
theorem dX3_aim_25 : decode cX3_aim 25 = .ok (.aload_n 0, 1) := by decide +kernel
theorem dX3_aim_26 : decode cX3_aim 26 = .ok (.getfield 48, 3) := by decide +kernel
theorem dX3_aim_29 : decode cX3_aim 29 = .ok (.iload_n 2, 1) := by decide +kernel
theorem dX3_aim_30 : decode cX3_aim 30 = .ok (.invokevirtual 89, 3) := by decide +kernel
theorem dX3_aim_33 : decode cX3_aim 33 = .ok (.return_, 1) := by decide +kernel
theorem dX4_readGrants_0 : decode cX4_readGrants 0 = .ok (.aload_n 0, 1) := by decide +kernel
theorem dX4_readGrants_1 : decode cX4_readGrants 1 = .ok (.getfield 15, 3) := by decide +kernel
theorem dX4_readGrants_4 : decode cX4_readGrants 4 = .ok (.invokevirtual 55, 3) := by decide +kernel
theorem dX4_readGrants_7 : decode cX4_readGrants 7 = .ok (.aload_n 0, 1) := by decide +kernel
theorem dX4_readGrants_8 : decode cX4_readGrants 8 = .ok (.iconst 0, 1) := by decide +kernel
theorem dX4_readGrants_9 : decode cX4_readGrants 9 = .ok (.putfield 58, 3) := by decide +kernel
theorem dX4_readGrants_12 : decode cX4_readGrants 12 = .ok (.aload_n 0, 1) := by decide +kernel
theorem dX4_readGrants_13 : decode cX4_readGrants 13 = .ok (.iconst 0, 1) := by decide +kernel
theorem dX4_readGrants_14 : decode cX4_readGrants 14 = .ok (.putfield 61, 3) := by decide +kernel
theorem dX4_readGrants_17 : decode cX4_readGrants 17 = .ok (.aload_n 0, 1) := by decide +kernel
theorem dX4_readGrants_18 : decode cX4_readGrants 18 = .ok (.iconst 0, 1) := by decide +kernel
theorem dX4_readGrants_19 : decode cX4_readGrants 19 = .ok (.putfield 64, 3) := by decide +kernel
theorem dX4_readGrants_22 : decode cX4_readGrants 22 = .ok (.aload_n 0, 1) := by decide +kernel
theorem dX4_readGrants_23 : decode cX4_readGrants 23 = .ok (.iconst (-1), 1) := by decide +kernel
theorem dX4_readGrants_24 : decode cX4_readGrants 24 = .ok (.putfield 51, 3) := by decide +kernel
theorem dX4_readGrants_27 : decode cX4_readGrants 27 = .ok (.iconst 0, 1) := by decide +kernel
theorem dX4_readGrants_28 : decode cX4_readGrants 28 = .ok (.istore_n 1, 1) := by decide +kernel
theorem dX4_readGrants_29 : decode cX4_readGrants 29 = .ok (.iload_n 1, 1) := by decide +kernel
theorem dX4_readGrants_30 : decode cX4_readGrants 30 = .ok (.bipush 8, 2) := by decide +kernel
theorem dX4_readGrants_32 : decode cX4_readGrants 32 = .ok (.if_icmp .gt 41, 3) := by decide +kernel
theorem dX4_readGrants_35 : decode cX4_readGrants 35 = .ok (.aload_n 0, 1) := by decide +kernel
theorem dX4_readGrants_36 : decode cX4_readGrants 36 = .ok (.getfield 9, 3) := by decide +kernel
theorem dX4_readGrants_39 : decode cX4_readGrants 39 = .ok (.getfield 67, 3) := by decide +kernel
theorem dX4_readGrants_42 : decode cX4_readGrants 42 = .ok (.sipush 210, 3) := by decide +kernel
theorem dX4_readGrants_45 : decode cX4_readGrants 45 = .ok (.if_icmp .ne 28, 3) := by decide +kernel
theorem dX4_readGrants_48 : decode cX4_readGrants 48 = .ok (.aload_n 0, 1) := by decide +kernel
theorem dX4_readGrants_49 : decode cX4_readGrants 49 = .ok (.iload_n 1, 1) := by decide +kernel
theorem dX4_readGrants_50 : decode cX4_readGrants 50 = .ok (.bipush 8, 2) := by decide +kernel
theorem dX4_readGrants_52 : decode cX4_readGrants 52 = .ok (.if_icmp .ge 7, 3) := by decide +kernel
theorem dX4_readGrants_55 : decode cX4_readGrants 55 = .ok (.iconst 1, 1) := by decide +kernel
theorem dX4_readGrants_56 : decode cX4_readGrants 56 = .ok (.goto 4, 3) := by decide +kernel
theorem dX4_readGrants_59 : decode cX4_readGrants 59 = .ok (.iconst 0, 1) := by decide +kernel
theorem dX4_readGrants_60 : decode cX4_readGrants 60 = .ok (.invokevirtual 72, 3) := by decide +kernel
theorem dX4_readGrants_63 : decode cX4_readGrants 63 = .ok (.aload_n 0, 1) := by decide +kernel
theorem dX4_readGrants_64 : decode cX4_readGrants 64 = .ok (.invokevirtual 76, 3) := by decide +kernel
theorem dX4_readGrants_67 : decode cX4_readGrants 67 = .ok (.iinc 1 1, 3) := by decide +kernel
theorem dX4_readGrants_70 : decode cX4_readGrants 70 = .ok (.goto (-41), 3) := by decide +kernel
theorem dX4_readGrants_73 : decode cX4_readGrants 73 = .ok (.return_, 1) := by decide +kernel
theorem dX4_hasModule_0 : decode cX4_hasModule 0 = .ok (.aload_n 0, 1) := by decide +kernel
theorem dX4_hasModule_1 : decode cX4_hasModule 1 = .ok (.getfield 9, 3) := by decide +kernel
theorem dX4_hasModule_4 : decode cX4_hasModule 4 = .ok (.getfield 67, 3) := by decide +kernel
theorem dX4_hasModule_7 : decode cX4_hasModule 7 = .ok (.sipush 211, 3) := by decide +kernel
theorem dX4_hasModule_10 : decode cX4_hasModule 10 = .ok (.if_icmp .ne 7, 3) := by decide +kernel
theorem dX4_hasModule_13 : decode cX4_hasModule 13 = .ok (.iconst 1, 1) := by decide +kernel
theorem dX4_hasModule_14 : decode cX4_hasModule 14 = .ok (.goto 4, 3) := by decide +kernel
theorem dX4_hasModule_17 : decode cX4_hasModule 17 = .ok (.iconst 0, 1) := by decide +kernel
theorem dX4_hasModule_18 : decode cX4_hasModule 18 = .ok (.istore_n 1, 1) := by decide +kernel
theorem dX4_hasModule_19 : decode cX4_hasModule 19 = .ok (.aload_n 0, 1) := by decide +kernel
theorem dX4_hasModule_20 : decode cX4_hasModule 20 = .ok (.iload_n 1, 1) := by decide +kernel
theorem dX4_hasModule_21 : decode cX4_hasModule 21 = .ok (.ifCond .ne 23, 3) := by decide +kernel
theorem dX4_hasModule_24 : decode cX4_hasModule 24 = .ok (.aload_n 0, 1) := by decide +kernel
theorem dX4_hasModule_25 : decode cX4_hasModule 25 = .ok (.getfield 9, 3) := by decide +kernel
theorem dX4_hasModule_28 : decode cX4_hasModule 28 = .ok (.getfield 67, 3) := by decide +kernel
theorem dX4_hasModule_31 : decode cX4_hasModule 31 = .ok (.ifCond .ne 17, 3) := by decide +kernel
theorem dX4_hasModule_34 : decode cX4_hasModule 34 = .ok (.aload_n 0, 1) := by decide +kernel
theorem dX4_hasModule_35 : decode cX4_hasModule 35 = .ok (.getfield 15, 3) := by decide +kernel
theorem dX4_hasModule_38 : decode cX4_hasModule 38 = .ok (.getfield 79, 3) := by decide +kernel
theorem dX4_hasModule_41 : decode cX4_hasModule 41 = .ok (.ifCond .le 7, 3) := by decide +kernel
theorem dX4_hasModule_44 : decode cX4_hasModule 44 = .ok (.iconst 1, 1) := by decide +kernel
theorem dX4_hasModule_45 : decode cX4_hasModule 45 = .ok (.goto 4, 3) := by decide +kernel
theorem dX4_hasModule_48 : decode cX4_hasModule 48 = .ok (.iconst 0, 1) := by decide +kernel
theorem dX4_hasModule_49 : decode cX4_hasModule 49 = .ok (.invokevirtual 82, 3) := by decide +kernel
theorem dX4_hasModule_52 : decode cX4_hasModule 52 = .ok (.iload_n 1, 1) := by decide +kernel
theorem dX4_hasModule_53 : decode cX4_hasModule 53 = .ok (.ireturn, 1) := by decide +kernel
theorem dX4_refuse_0 : decode cX4_refuse 0 = .ok (.aload_n 0, 1) := by decide +kernel
theorem dX4_refuse_1 : decode cX4_refuse 1 = .ok (.iload_n 1, 1) := by decide +kernel
theorem dX4_refuse_2 : decode cX4_refuse 2 = .ok (.putfield 64, 3) := by decide +kernel
theorem dX4_refuse_5 : decode cX4_refuse 5 = .ok (.aload_n 0, 1) := by decide +kernel
theorem dX4_refuse_6 : decode cX4_refuse 6 = .ok (.iload_n 2, 1) := by decide +kernel
theorem dX4_refuse_7 : decode cX4_refuse 7 = .ok (.putfield 51, 3) := by decide +kernel
theorem dX4_refuse_10 : decode cX4_refuse 10 = .ok (.new 85, 3) := by decide +kernel
theorem dX4_refuse_13 : decode cX4_refuse 13 = .ok (.dup, 1) := by decide +kernel
theorem dX4_refuse_14 : decode cX4_refuse 14 = .ok (.ldc 87, 2) := by decide +kernel
theorem dX4_refuse_16 : decode cX4_refuse 16 = .ok (.invokespecial 89, 3) := by decide +kernel
theorem dX4_refuse_19 : decode cX4_refuse 19 = .ok (.athrow, 1) := by decide +kernel
theorem dX4_need_0 : decode cX4_need 0 = .ok (.iload_n 1, 1) := by decide +kernel
theorem dX4_need_1 : decode cX4_need 1 = .ok (.ifCond .ne 15, 3) := by decide +kernel
theorem dX4_need_4 : decode cX4_need 4 = .ok (.aload_n 0, 1) := by decide +kernel
theorem dX4_need_5 : decode cX4_need 5 = .ok (.iconst 1, 1) := by decide +kernel
theorem dX4_need_6 : decode cX4_need 6 = .ok (.aload_n 0, 1) := by decide +kernel
theorem dX4_need_7 : decode cX4_need 7 = .ok (.getfield 9, 3) := by decide +kernel
theorem dX4_need_10 : decode cX4_need 10 = .ok (.getfield 92, 3) := by decide +kernel
theorem dX4_need_13 : decode cX4_need 13 = .ok (.invokevirtual 95, 3) := by decide +kernel
theorem dX4_need_16 : decode cX4_need 16 = .ok (.return_, 1) := by decide +kernel
theorem dX4_room_0 : decode cX4_room 0 = .ok (.iload_n 1, 1) := by decide +kernel
theorem dX4_room_1 : decode cX4_room 1 = .ok (.ifCond .ne 15, 3) := by decide +kernel
theorem dX4_room_4 : decode cX4_room 4 = .ok (.aload_n 0, 1) := by decide +kernel
theorem dX4_room_5 : decode cX4_room 5 = .ok (.iconst 4, 1) := by decide +kernel
theorem dX4_room_6 : decode cX4_room 6 = .ok (.aload_n 0, 1) := by decide +kernel
theorem dX4_room_7 : decode cX4_room 7 = .ok (.getfield 9, 3) := by decide +kernel
theorem dX4_room_10 : decode cX4_room 10 = .ok (.getfield 92, 3) := by decide +kernel
theorem dX4_room_13 : decode cX4_room 13 = .ok (.invokevirtual 95, 3) := by decide +kernel
theorem dX4_room_16 : decode cX4_room 16 = .ok (.return_, 1) := by decide +kernel
theorem dX4_pass_0 : decode cX4_pass 0 = .ok (.aload_n 0, 1) := by decide +kernel
theorem dX4_pass_1 : decode cX4_pass 1 = .ok (.aload_n 0, 1) := by decide +kernel
theorem dX4_pass_2 : decode cX4_pass 2 = .ok (.getfield 9, 3) := by decide +kernel
theorem dX4_pass_5 : decode cX4_pass 5 = .ok (.getfield 67, 3) := by decide +kernel
theorem dX4_pass_8 : decode cX4_pass 8 = .ok (.iload_n 1, 1) := by decide +kernel
theorem dX4_pass_9 : decode cX4_pass 9 = .ok (.if_icmp .ne 7, 3) := by decide +kernel
theorem dX4_pass_12 : decode cX4_pass 12 = .ok (.iconst 1, 1) := by decide +kernel
theorem dX4_pass_13 : decode cX4_pass 13 = .ok (.goto 4, 3) := by decide +kernel
theorem dX4_pass_16 : decode cX4_pass 16 = .ok (.iconst 0, 1) := by decide +kernel
theorem dX4_pass_17 : decode cX4_pass 17 = .ok (.invokevirtual 82, 3) := by decide +kernel
theorem dX4_pass_20 : decode cX4_pass 20 = .ok (.aload_n 0, 1) := by decide +kernel
theorem dX4_pass_21 : decode cX4_pass 21 = .ok (.getfield 9, 3) := by decide +kernel
theorem dX4_pass_24 : decode cX4_pass 24 = .ok (.invokevirtual 99, 3) := by decide +kernel
theorem dX4_pass_27 : decode cX4_pass 27 = .ok (.return_, 1) := by decide +kernel
theorem dX4_needName_0 : decode cX4_needName 0 = .ok (.aload_n 0, 1) := by decide +kernel
theorem dX4_needName_1 : decode cX4_needName 1 = .ok (.getfield 9, 3) := by decide +kernel
theorem dX4_needName_4 : decode cX4_needName 4 = .ok (.getfield 67, 3) := by decide +kernel
theorem dX4_needName_7 : decode cX4_needName 7 = .ok (.iconst 2, 1) := by decide +kernel
theorem dX4_needName_8 : decode cX4_needName 8 = .ok (.if_icmp .eq 15, 3) := by decide +kernel
theorem dX4_needName_11 : decode cX4_needName 11 = .ok (.aload_n 0, 1) := by decide +kernel
theorem dX4_needName_12 : decode cX4_needName 12 = .ok (.iconst 1, 1) := by decide +kernel
theorem dX4_needName_13 : decode cX4_needName 13 = .ok (.aload_n 0, 1) := by decide +kernel
theorem dX4_needName_14 : decode cX4_needName 14 = .ok (.getfield 9, 3) := by decide +kernel
theorem dX4_needName_17 : decode cX4_needName 17 = .ok (.getfield 92, 3) := by decide +kernel
theorem dX4_needName_20 : decode cX4_needName 20 = .ok (.invokevirtual 95, 3) := by decide +kernel
theorem dX4_needName_23 : decode cX4_needName 23 = .ok (.return_, 1) := by decide +kernel
theorem dX4_takePattern_0 : decode cX4_takePattern 0 = .ok (.aload_n 0, 1) := by decide +kernel
theorem dX4_takePattern_1 : decode cX4_takePattern 1 = .ok (.aload_n 0, 1) := by decide +kernel
theorem dX4_takePattern_2 : decode cX4_takePattern 2 = .ok (.getfield 9, 3) := by decide +kernel
theorem dX4_takePattern_5 : decode cX4_takePattern 5 = .ok (.getfield 67, 3) := by decide +kernel
theorem dX4_takePattern_8 : decode cX4_takePattern 8 = .ok (.iconst 4, 1) := by decide +kernel
theorem dX4_takePattern_9 : decode cX4_takePattern 9 = .ok (.if_icmp .ne 7, 3) := by decide +kernel
theorem dX4_takePattern_12 : decode cX4_takePattern 12 = .ok (.iconst 1, 1) := by decide +kernel
theorem dX4_takePattern_13 : decode cX4_takePattern 13 = .ok (.goto 4, 3) := by decide +kernel
theorem dX4_takePattern_16 : decode cX4_takePattern 16 = .ok (.iconst 0, 1) := by decide +kernel
theorem dX4_takePattern_17 : decode cX4_takePattern 17 = .ok (.invokevirtual 82, 3) := by decide +kernel
theorem dX4_takePattern_20 : decode cX4_takePattern 20 = .ok (.iload_n 1, 1) := by decide +kernel
theorem dX4_takePattern_21 : decode cX4_takePattern 21 = .ok (.ifCond .eq 25, 3) := by decide +kernel
theorem dX4_takePattern_24 : decode cX4_takePattern 24 = .ok (.aload_n 0, 1) := by decide +kernel
theorem dX4_takePattern_25 : decode cX4_takePattern 25 = .ok (.getfield 9, 3) := by decide +kernel
theorem dX4_takePattern_28 : decode cX4_takePattern 28 = .ok (.invokevirtual 102, 3) := by decide +kernel
theorem dX4_takePattern_31 : decode cX4_takePattern 31 = .ok (.ifCond .eq 15, 3) := by decide +kernel
theorem dX4_takePattern_34 : decode cX4_takePattern 34 = .ok (.aload_n 0, 1) := by decide +kernel
theorem dX4_takePattern_35 : decode cX4_takePattern 35 = .ok (.iconst 5, 1) := by decide +kernel
theorem dX4_takePattern_36 : decode cX4_takePattern 36 = .ok (.aload_n 0, 1) := by decide +kernel
theorem dX4_takePattern_37 : decode cX4_takePattern 37 = .ok (.getfield 9, 3) := by decide +kernel
theorem dX4_takePattern_40 : decode cX4_takePattern 40 = .ok (.getfield 92, 3) := by decide +kernel
theorem dX4_takePattern_43 : decode cX4_takePattern 43 = .ok (.invokevirtual 95, 3) := by decide +kernel
theorem dX4_takePattern_46 : decode cX4_takePattern 46 = .ok (.aload_n 0, 1) := by decide +kernel
theorem dX4_takePattern_47 : decode cX4_takePattern 47 = .ok (.getfield 9, 3) := by decide +kernel
theorem dX4_takePattern_50 : decode cX4_takePattern 50 = .ok (.aload_n 0, 1) := by decide +kernel
theorem dX4_takePattern_51 : decode cX4_takePattern 51 = .ok (.getfield 26, 3) := by decide +kernel
theorem dX4_takePattern_54 : decode cX4_takePattern 54 = .ok (.invokevirtual 106, 3) := by decide +kernel
theorem dX4_takePattern_57 : decode cX4_takePattern 57 = .ok (.aload_n 0, 1) := by decide +kernel
theorem dX4_takePattern_58 : decode cX4_takePattern 58 = .ok (.getfield 9, 3) := by decide +kernel
theorem dX4_takePattern_61 : decode cX4_takePattern 61 = .ok (.invokevirtual 99, 3) := by decide +kernel
theorem dX4_takePattern_64 : decode cX4_takePattern 64 = .ok (.return_, 1) := by decide +kernel
theorem dX4_readGrant_0 : decode cX4_readGrant 0 = .ok (.aload_n 0, 1) := by decide +kernel
theorem dX4_readGrant_1 : decode cX4_readGrant 1 = .ok (.getfield 9, 3) := by decide +kernel
theorem dX4_readGrant_4 : decode cX4_readGrant 4 = .ok (.invokevirtual 99, 3) := by decide +kernel
theorem dX4_readGrant_7 : decode cX4_readGrant 7 = .ok (.aload_n 0, 1) := by decide +kernel
theorem dX4_readGrant_8 : decode cX4_readGrant 8 = .ok (.iconst 0, 1) := by decide +kernel
theorem dX4_readGrant_9 : decode cX4_readGrant 9 = .ok (.invokevirtual 110, 3) := by decide +kernel
theorem dX4_readGrant_12 : decode cX4_readGrant 12 = .ok (.aload_n 0, 1) := by decide +kernel
theorem dX4_readGrant_13 : decode cX4_readGrant 13 = .ok (.getfield 19, 3) := by decide +kernel
theorem dX4_readGrant_16 : decode cX4_readGrant 16 = .ok (.aload_n 0, 1) := by decide +kernel
theorem dX4_readGrant_17 : decode cX4_readGrant 17 = .ok (.getfield 26, 3) := by decide +kernel
theorem dX4_readGrant_20 : decode cX4_readGrant 20 = .ok (.invokevirtual 113, 3) := by decide +kernel
theorem dX4_readGrant_23 : decode cX4_readGrant 23 = .ok (.aload_n 0, 1) := by decide +kernel
theorem dX4_readGrant_24 : decode cX4_readGrant 24 = .ok (.bipush 123, 2) := by decide +kernel
theorem dX4_readGrant_26 : decode cX4_readGrant 26 = .ok (.invokevirtual 118, 3) := by decide +kernel
theorem dX4_readGrant_29 : decode cX4_readGrant 29 = .ok (.iconst 0, 1) := by decide +kernel
theorem dX4_readGrant_30 : decode cX4_readGrant 30 = .ok (.istore_n 1, 1) := by decide +kernel
theorem dX4_readGrant_31 : decode cX4_readGrant 31 = .ok (.iload_n 1, 1) := by decide +kernel
theorem dX4_readGrant_32 : decode cX4_readGrant 32 = .ok (.bipush 8, 2) := by decide +kernel
theorem dX4_readGrant_34 : decode cX4_readGrant 34 = .ok (.if_icmp .gt 32, 3) := by decide +kernel
theorem dX4_readGrant_37 : decode cX4_readGrant 37 = .ok (.aload_n 0, 1) := by decide +kernel
theorem dX4_readGrant_38 : decode cX4_readGrant 38 = .ok (.getfield 9, 3) := by decide +kernel
theorem dX4_readGrant_41 : decode cX4_readGrant 41 = .ok (.getfield 67, 3) := by decide +kernel
theorem dX4_readGrant_44 : decode cX4_readGrant 44 = .ok (.iconst 2, 1) := by decide +kernel
theorem dX4_readGrant_45 : decode cX4_readGrant 45 = .ok (.if_icmp .ne 21, 3) := by decide +kernel
theorem dX4_readGrant_48 : decode cX4_readGrant 48 = .ok (.aload_n 0, 1) := by decide +kernel
theorem dX4_readGrant_49 : decode cX4_readGrant 49 = .ok (.iload_n 1, 1) := by decide +kernel
theorem dX4_readGrant_50 : decode cX4_readGrant 50 = .ok (.iconst 0, 1) := by decide +kernel
theorem dX4_readGrant_51 : decode cX4_readGrant 51 = .ok (.invokevirtual 122, 3) := by decide +kernel
theorem dX4_readGrant_54 : decode cX4_readGrant 54 = .ok (.aload_n 0, 1) := by decide +kernel
theorem dX4_readGrant_55 : decode cX4_readGrant 55 = .ok (.bipush 59, 2) := by decide +kernel
theorem dX4_readGrant_57 : decode cX4_readGrant 57 = .ok (.invokevirtual 118, 3) := by decide +kernel
theorem dX4_readGrant_60 : decode cX4_readGrant 60 = .ok (.iinc 1 1, 3) := by decide +kernel
theorem dX4_readGrant_63 : decode cX4_readGrant 63 = .ok (.goto (-32), 3) := by decide +kernel
theorem dX4_readGrant_66 : decode cX4_readGrant 66 = .ok (.aload_n 0, 1) := by decide +kernel
theorem dX4_readGrant_67 : decode cX4_readGrant 67 = .ok (.bipush 125, 2) := by decide +kernel
theorem dX4_readGrant_69 : decode cX4_readGrant 69 = .ok (.invokevirtual 118, 3) := by decide +kernel
theorem dX4_readGrant_72 : decode cX4_readGrant 72 = .ok (.return_, 1) := by decide +kernel
theorem dX4_readRight_0 : decode cX4_readRight 0 = .ok (.aload_n 0, 1) := by decide +kernel
theorem dX4_readRight_1 : decode cX4_readRight 1 = .ok (.invokevirtual 126, 3) := by decide +kernel
theorem dX4_readRight_4 : decode cX4_readRight 4 = .ok (.aload_n 0, 1) := by decide +kernel
theorem dX4_readRight_5 : decode cX4_readRight 5 = .ok (.iload_n 1, 1) := by decide +kernel
theorem dX4_readRight_6 : decode cX4_readRight 6 = .ok (.bipush 8, 2) := by decide +kernel
theorem dX4_readRight_8 : decode cX4_readRight 8 = .ok (.if_icmp .ge 7, 3) := by decide +kernel
theorem dX4_readRight_11 : decode cX4_readRight 11 = .ok (.iconst 1, 1) := by decide +kernel
theorem dX4_readRight_12 : decode cX4_readRight 12 = .ok (.goto 4, 3) := by decide +kernel
theorem dX4_readRight_15 : decode cX4_readRight 15 = .ok (.iconst 0, 1) := by decide +kernel
theorem dX4_readRight_16 : decode cX4_readRight 16 = .ok (.invokevirtual 72, 3) := by decide +kernel
theorem dX4_readRight_19 : decode cX4_readRight 19 = .ok (.aload_n 0, 1) := by decide +kernel
theorem dX4_readRight_20 : decode cX4_readRight 20 = .ok (.getfield 26, 3) := by decide +kernel
theorem dX4_readRight_23 : decode cX4_readRight 23 = .ok (.aload_n 0, 1) := by decide +kernel
theorem dX4_readRight_24 : decode cX4_readRight 24 = .ok (.getfield 9, 3) := by decide +kernel
theorem dX4_readRight_27 : decode cX4_readRight 27 = .ok (.getfield 129, 3) := by decide +kernel
theorem dX4_readRight_30 : decode cX4_readRight 30 = .ok (.putfield 133, 3) := by decide +kernel
theorem dX4_readRight_33 : decode cX4_readRight 33 = .ok (.aload_n 0, 1) := by decide +kernel
theorem dX4_readRight_34 : decode cX4_readRight 34 = .ok (.getfield 9, 3) := by decide +kernel
theorem dX4_readRight_37 : decode cX4_readRight 37 = .ok (.invokevirtual 99, 3) := by decide +kernel
theorem dX4_readRight_40 : decode cX4_readRight 40 = .ok (.aload_n 0, 1) := by decide +kernel
theorem dX4_readRight_41 : decode cX4_readRight 41 = .ok (.iconst 0, 1) := by decide +kernel
theorem dX4_readRight_42 : decode cX4_readRight 42 = .ok (.invokevirtual 110, 3) := by decide +kernel
theorem dX4_readRight_45 : decode cX4_readRight 45 = .ok (.iload_n 2, 1) := by decide +kernel
theorem dX4_readRight_46 : decode cX4_readRight 46 = .ok (.ifCond .eq 17, 3) := by decide +kernel
theorem dX4_readRight_49 : decode cX4_readRight 49 = .ok (.aload_n 0, 1) := by decide +kernel
theorem dX4_readRight_50 : decode cX4_readRight 50 = .ok (.getfield 19, 3) := by decide +kernel
theorem dX4_readRight_53 : decode cX4_readRight 53 = .ok (.aload_n 0, 1) := by decide +kernel
theorem dX4_readRight_54 : decode cX4_readRight 54 = .ok (.getfield 26, 3) := by decide +kernel
theorem dX4_readRight_57 : decode cX4_readRight 57 = .ok (.invokevirtual 135, 3) := by decide +kernel
theorem dX4_readRight_60 : decode cX4_readRight 60 = .ok (.goto 14, 3) := by decide +kernel
theorem dX4_readRight_63 : decode cX4_readRight 63 = .ok (.aload_n 0, 1) := by decide +kernel
theorem dX4_readRight_64 : decode cX4_readRight 64 = .ok (.getfield 19, 3) := by decide +kernel
theorem dX4_readRight_67 : decode cX4_readRight 67 = .ok (.aload_n 0, 1) := by decide +kernel
theorem dX4_readRight_68 : decode cX4_readRight 68 = .ok (.getfield 26, 3) := by decide +kernel
theorem dX4_readRight_71 : decode cX4_readRight 71 = .ok (.invokevirtual 138, 3) := by decide +kernel
theorem dX4_readRight_74 : decode cX4_readRight 74 = .ok (.return_, 1) := by decide +kernel
theorem dX4_readModule_0 : decode cX4_readModule 0 = .ok (.aload_n 0, 1) := by decide +kernel
theorem dX4_readModule_1 : decode cX4_readModule 1 = .ok (.getfield 9, 3) := by decide +kernel
theorem dX4_readModule_4 : decode cX4_readModule 4 = .ok (.invokevirtual 99, 3) := by decide +kernel
theorem dX4_readModule_7 : decode cX4_readModule 7 = .ok (.aload_n 0, 1) := by decide +kernel
theorem dX4_readModule_8 : decode cX4_readModule 8 = .ok (.invokevirtual 126, 3) := by decide +kernel
theorem dX4_readModule_11 : decode cX4_readModule 11 = .ok (.aload_n 0, 1) := by decide +kernel
theorem dX4_readModule_12 : decode cX4_readModule 12 = .ok (.aload_n 0, 1) := by decide +kernel
theorem dX4_readModule_13 : decode cX4_readModule 13 = .ok (.getfield 15, 3) := by decide +kernel
theorem dX4_readModule_16 : decode cX4_readModule 16 = .ok (.getfield 79, 3) := by decide +kernel
theorem dX4_readModule_19 : decode cX4_readModule 19 = .ok (.bipush 8, 2) := by decide +kernel
theorem dX4_readModule_21 : decode cX4_readModule 21 = .ok (.if_icmp .ge 7, 3) := by decide +kernel
theorem dX4_readModule_24 : decode cX4_readModule 24 = .ok (.iconst 1, 1) := by decide +kernel
theorem dX4_readModule_25 : decode cX4_readModule 25 = .ok (.goto 4, 3) := by decide +kernel
theorem dX4_readModule_28 : decode cX4_readModule 28 = .ok (.iconst 0, 1) := by decide +kernel
theorem dX4_readModule_29 : decode cX4_readModule 29 = .ok (.invokevirtual 72, 3) := by decide +kernel
theorem dX4_readModule_32 : decode cX4_readModule 32 = .ok (.aload_n 0, 1) := by decide +kernel
theorem dX4_readModule_33 : decode cX4_readModule 33 = .ok (.getfield 15, 3) := by decide +kernel
theorem dX4_readModule_36 : decode cX4_readModule 36 = .ok (.aload_n 0, 1) := by decide +kernel
theorem dX4_readModule_37 : decode cX4_readModule 37 = .ok (.getfield 9, 3) := by decide +kernel
theorem dX4_readModule_40 : decode cX4_readModule 40 = .ok (.getfield 129, 3) := by decide +kernel
theorem dX4_readModule_43 : decode cX4_readModule 43 = .ok (.invokevirtual 141, 3) := by decide +kernel
theorem dX4_readModule_46 : decode cX4_readModule 46 = .ok (.iconst (-1), 1) := by decide +kernel
theorem dX4_readModule_47 : decode cX4_readModule 47 = .ok (.if_icmp .eq 15, 3) := by decide +kernel
theorem dX4_readModule_50 : decode cX4_readModule 50 = .ok (.aload_n 0, 1) := by decide +kernel
theorem dX4_readModule_51 : decode cX4_readModule 51 = .ok (.iconst 2, 1) := by decide +kernel
theorem dX4_readModule_52 : decode cX4_readModule 52 = .ok (.aload_n 0, 1) := by decide +kernel
theorem dX4_readModule_53 : decode cX4_readModule 53 = .ok (.getfield 9, 3) := by decide +kernel
theorem dX4_readModule_56 : decode cX4_readModule 56 = .ok (.getfield 92, 3) := by decide +kernel
theorem dX4_readModule_59 : decode cX4_readModule 59 = .ok (.invokevirtual 95, 3) := by decide +kernel
theorem dX4_readModule_62 : decode cX4_readModule 62 = .ok (.aload_n 0, 1) := by decide +kernel
theorem dX4_readModule_63 : decode cX4_readModule 63 = .ok (.aload_n 0, 1) := by decide +kernel
theorem dX4_readModule_64 : decode cX4_readModule 64 = .ok (.getfield 15, 3) := by decide +kernel
theorem dX4_readModule_67 : decode cX4_readModule 67 = .ok (.aload_n 0, 1) := by decide +kernel
theorem dX4_readModule_68 : decode cX4_readModule 68 = .ok (.getfield 9, 3) := by decide +kernel
theorem dX4_readModule_71 : decode cX4_readModule 71 = .ok (.getfield 129, 3) := by decide +kernel
theorem dX4_readModule_74 : decode cX4_readModule 74 = .ok (.invokevirtual 145, 3) := by decide +kernel
theorem dX4_readModule_77 : decode cX4_readModule 77 = .ok (.putfield 148, 3) := by decide +kernel
theorem dX4_readModule_80 : decode cX4_readModule 80 = .ok (.aload_n 0, 1) := by decide +kernel
theorem dX4_readModule_81 : decode cX4_readModule 81 = .ok (.getfield 9, 3) := by decide +kernel
theorem dX4_readModule_84 : decode cX4_readModule 84 = .ok (.invokevirtual 99, 3) := by decide +kernel
theorem dX4_readModule_87 : decode cX4_readModule 87 = .ok (.aload_n 0, 1) := by decide +kernel
theorem dX4_readModule_88 : decode cX4_readModule 88 = .ok (.iconst 1, 1) := by decide +kernel
theorem dX4_readModule_89 : decode cX4_readModule 89 = .ok (.invokevirtual 110, 3) := by decide +kernel
theorem dX4_readModule_92 : decode cX4_readModule 92 = .ok (.aload_n 0, 1) := by decide +kernel
theorem dX4_readModule_93 : decode cX4_readModule 93 = .ok (.getfield 19, 3) := by decide +kernel
theorem dX4_readModule_96 : decode cX4_readModule 96 = .ok (.aload_n 0, 1) := by decide +kernel
theorem dX4_readModule_97 : decode cX4_readModule 97 = .ok (.getfield 148, 3) := by decide +kernel
theorem dX4_readModule_100 : decode cX4_readModule 100 = .ok (.aload_n 0, 1) := by decide +kernel
theorem dX4_readModule_101 : decode cX4_readModule 101 = .ok (.getfield 26, 3) := by decide +kernel
theorem dX4_readModule_104 : decode cX4_readModule 104 = .ok (.invokevirtual 151, 3) := by decide +kernel
theorem dX4_readModule_107 : decode cX4_readModule 107 = .ok (.aload_n 0, 1) := by decide +kernel
theorem dX4_readModule_108 : decode cX4_readModule 108 = .ok (.getfield 9, 3) := by decide +kernel
theorem dX4_readModule_111 : decode cX4_readModule 111 = .ok (.getfield 67, 3) := by decide +kernel
theorem dX4_readModule_114 : decode cX4_readModule 114 = .ok (.bipush 58, 2) := by decide +kernel
theorem dX4_readModule_116 : decode cX4_readModule 116 = .ok (.if_icmp .ne 7, 3) := by decide +kernel
theorem dX4_readModule_119 : decode cX4_readModule 119 = .ok (.aload_n 0, 1) := by decide +kernel
theorem dX4_readModule_120 : decode cX4_readModule 120 = .ok (.invokevirtual 155, 3) := by decide +kernel
theorem dX4_readModule_123 : decode cX4_readModule 123 = .ok (.aload_n 0, 1) := by decide +kernel
theorem dX4_readModule_124 : decode cX4_readModule 124 = .ok (.bipush 123, 2) := by decide +kernel
theorem dX4_readModule_126 : decode cX4_readModule 126 = .ok (.invokevirtual 118, 3) := by decide +kernel
theorem dX4_readModule_129 : decode cX4_readModule 129 = .ok (.iconst 0, 1) := by decide +kernel
theorem dX4_readModule_130 : decode cX4_readModule 130 = .ok (.istore_n 1, 1) := by decide +kernel
theorem dX4_readModule_131 : decode cX4_readModule 131 = .ok (.iload_n 1, 1) := by decide +kernel
theorem dX4_readModule_132 : decode cX4_readModule 132 = .ok (.iconst 4, 1) := by decide +kernel
theorem dX4_readModule_133 : decode cX4_readModule 133 = .ok (.if_icmp .gt 26, 3) := by decide +kernel
theorem dX4_readModule_136 : decode cX4_readModule 136 = .ok (.aload_n 0, 1) := by decide +kernel
theorem dX4_readModule_137 : decode cX4_readModule 137 = .ok (.getfield 9, 3) := by decide +kernel
theorem dX4_readModule_140 : decode cX4_readModule 140 = .ok (.getfield 67, 3) := by decide +kernel
theorem dX4_readModule_143 : decode cX4_readModule 143 = .ok (.sipush 212, 3) := by decide +kernel
theorem dX4_readModule_146 : decode cX4_readModule 146 = .ok (.if_icmp .ne 13, 3) := by decide +kernel
theorem dX4_readModule_149 : decode cX4_readModule 149 = .ok (.aload_n 0, 1) := by decide +kernel
theorem dX4_readModule_150 : decode cX4_readModule 150 = .ok (.invokevirtual 158, 3) := by decide +kernel
theorem dX4_readModule_153 : decode cX4_readModule 153 = .ok (.iinc 1 1, 3) := by decide +kernel
theorem dX4_readModule_156 : decode cX4_readModule 156 = .ok (.goto (-25), 3) := by decide +kernel
theorem dX4_readModule_159 : decode cX4_readModule 159 = .ok (.iconst 0, 1) := by decide +kernel
theorem dX4_readModule_160 : decode cX4_readModule 160 = .ok (.istore_n 1, 1) := by decide +kernel
theorem dX4_readModule_161 : decode cX4_readModule 161 = .ok (.iload_n 1, 1) := by decide +kernel
theorem dX4_readModule_162 : decode cX4_readModule 162 = .ok (.bipush 12, 2) := by decide +kernel
theorem dX4_readModule_164 : decode cX4_readModule 164 = .ok (.if_icmp .gt 24, 3) := by decide +kernel
theorem dX4_readModule_167 : decode cX4_readModule 167 = .ok (.aload_n 0, 1) := by decide +kernel
theorem dX4_readModule_168 : decode cX4_readModule 168 = .ok (.getfield 9, 3) := by decide +kernel
theorem dX4_readModule_171 : decode cX4_readModule 171 = .ok (.getfield 67, 3) := by decide +kernel
theorem dX4_readModule_174 : decode cX4_readModule 174 = .ok (.iconst 2, 1) := by decide +kernel
theorem dX4_readModule_175 : decode cX4_readModule 175 = .ok (.if_icmp .ne 13, 3) := by decide +kernel
theorem dX4_readModule_178 : decode cX4_readModule 178 = .ok (.aload_n 0, 1) := by decide +kernel
theorem dX4_readModule_179 : decode cX4_readModule 179 = .ok (.invokevirtual 161, 3) := by decide +kernel
theorem dX4_readModule_182 : decode cX4_readModule 182 = .ok (.iinc 1 1, 3) := by decide +kernel
theorem dX4_readModule_185 : decode cX4_readModule 185 = .ok (.goto (-24), 3) := by decide +kernel
theorem dX4_readModule_188 : decode cX4_readModule 188 = .ok (.aload_n 0, 1) := by decide +kernel
theorem dX4_readModule_189 : decode cX4_readModule 189 = .ok (.bipush 125, 2) := by decide +kernel
theorem dX4_readModule_191 : decode cX4_readModule 191 = .ok (.invokevirtual 118, 3) := by decide +kernel
theorem dX4_readModule_194 : decode cX4_readModule 194 = .ok (.return_, 1) := by decide +kernel
theorem dX4_readSuper_0 : decode cX4_readSuper 0 = .ok (.aload_n 0, 1) := by decide +kernel
theorem dX4_readSuper_1 : decode cX4_readSuper 1 = .ok (.getfield 9, 3) := by decide +kernel
theorem dX4_readSuper_4 : decode cX4_readSuper 4 = .ok (.invokevirtual 99, 3) := by decide +kernel
theorem dX4_readSuper_7 : decode cX4_readSuper 7 = .ok (.aload_n 0, 1) := by decide +kernel
theorem dX4_readSuper_8 : decode cX4_readSuper 8 = .ok (.invokevirtual 126, 3) := by decide +kernel
theorem dX4_readSuper_11 : decode cX4_readSuper 11 = .ok (.aload_n 0, 1) := by decide +kernel
theorem dX4_readSuper_12 : decode cX4_readSuper 12 = .ok (.getfield 15, 3) := by decide +kernel
theorem dX4_readSuper_15 : decode cX4_readSuper 15 = .ok (.aload_n 0, 1) := by decide +kernel
theorem dX4_readSuper_16 : decode cX4_readSuper 16 = .ok (.getfield 9, 3) := by decide +kernel
theorem dX4_readSuper_19 : decode cX4_readSuper 19 = .ok (.getfield 129, 3) := by decide +kernel
theorem dX4_readSuper_22 : decode cX4_readSuper 22 = .ok (.invokevirtual 141, 3) := by decide +kernel
theorem dX4_readSuper_25 : decode cX4_readSuper 25 = .ok (.istore_n 1, 1) := by decide +kernel
theorem dX4_readSuper_26 : decode cX4_readSuper 26 = .ok (.iload_n 1, 1) := by decide +kernel
theorem dX4_readSuper_27 : decode cX4_readSuper 27 = .ok (.iconst (-1), 1) := by decide +kernel
theorem dX4_readSuper_28 : decode cX4_readSuper 28 = .ok (.if_icmp .eq 11, 3) := by decide +kernel
theorem dX4_readSuper_31 : decode cX4_readSuper 31 = .ok (.iload_n 1, 1) := by decide +kernel
theorem dX4_readSuper_32 : decode cX4_readSuper 32 = .ok (.aload_n 0, 1) := by decide +kernel
theorem dX4_readSuper_33 : decode cX4_readSuper 33 = .ok (.getfield 148, 3) := by decide +kernel
theorem dX4_readSuper_36 : decode cX4_readSuper 36 = .ok (.if_icmp .ne 15, 3) := by decide +kernel
theorem dX4_readSuper_39 : decode cX4_readSuper 39 = .ok (.aload_n 0, 1) := by decide +kernel
theorem dX4_readSuper_40 : decode cX4_readSuper 40 = .ok (.iconst 3, 1) := by decide +kernel
theorem dX4_readSuper_41 : decode cX4_readSuper 41 = .ok (.aload_n 0, 1) := by decide +kernel
theorem dX4_readSuper_42 : decode cX4_readSuper 42 = .ok (.getfield 9, 3) := by decide +kernel
theorem dX4_readSuper_45 : decode cX4_readSuper 45 = .ok (.getfield 92, 3) := by decide +kernel
theorem dX4_readSuper_48 : decode cX4_readSuper 48 = .ok (.invokevirtual 95, 3) := by decide +kernel
theorem dX4_readSuper_51 : decode cX4_readSuper 51 = .ok (.aload_n 0, 1) := by decide +kernel
theorem dX4_readSuper_52 : decode cX4_readSuper 52 = .ok (.getfield 15, 3) := by decide +kernel
theorem dX4_readSuper_55 : decode cX4_readSuper 55 = .ok (.aload_n 0, 1) := by decide +kernel
theorem dX4_readSuper_56 : decode cX4_readSuper 56 = .ok (.getfield 148, 3) := by decide +kernel
theorem dX4_readSuper_59 : decode cX4_readSuper 59 = .ok (.iload_n 1, 1) := by decide +kernel
theorem dX4_readSuper_60 : decode cX4_readSuper 60 = .ok (.invokevirtual 164, 3) := by decide +kernel
theorem dX4_readSuper_63 : decode cX4_readSuper 63 = .ok (.aload_n 0, 1) := by decide +kernel
theorem dX4_readSuper_64 : decode cX4_readSuper 64 = .ok (.getfield 9, 3) := by decide +kernel
theorem dX4_readSuper_67 : decode cX4_readSuper 67 = .ok (.invokevirtual 99, 3) := by decide +kernel
theorem dX4_readSuper_70 : decode cX4_readSuper 70 = .ok (.return_, 1) := by decide +kernel
theorem dX4_readField_0 : decode cX4_readField 0 = .ok (.aload_n 0, 1) := by decide +kernel
theorem dX4_readField_1 : decode cX4_readField 1 = .ok (.getfield 9, 3) := by decide +kernel
theorem dX4_readField_4 : decode cX4_readField 4 = .ok (.invokevirtual 99, 3) := by decide +kernel
theorem dX4_readField_7 : decode cX4_readField 7 = .ok (.aload_n 0, 1) := by decide +kernel
theorem dX4_readField_8 : decode cX4_readField 8 = .ok (.invokevirtual 126, 3) := by decide +kernel
theorem dX4_readField_11 : decode cX4_readField 11 = .ok (.aload_n 0, 1) := by decide +kernel
theorem dX4_readField_12 : decode cX4_readField 12 = .ok (.aload_n 0, 1) := by decide +kernel
theorem dX4_readField_13 : decode cX4_readField 13 = .ok (.getfield 15, 3) := by decide +kernel
theorem dX4_readField_16 : decode cX4_readField 16 = .ok (.aload_n 0, 1) := by decide +kernel
theorem dX4_readField_17 : decode cX4_readField 17 = .ok (.getfield 148, 3) := by decide +kernel
theorem dX4_readField_20 : decode cX4_readField 20 = .ok (.invokevirtual 167, 3) := by decide +kernel
theorem dX4_readField_23 : decode cX4_readField 23 = .ok (.iconst 4, 1) := by decide +kernel
theorem dX4_readField_24 : decode cX4_readField 24 = .ok (.if_icmp .ge 7, 3) := by decide +kernel
theorem dX4_readField_27 : decode cX4_readField 27 = .ok (.iconst 1, 1) := by decide +kernel
theorem dX4_readField_28 : decode cX4_readField 28 = .ok (.goto 4, 3) := by decide +kernel
theorem dX4_readField_31 : decode cX4_readField 31 = .ok (.iconst 0, 1) := by decide +kernel
theorem dX4_readField_32 : decode cX4_readField 32 = .ok (.invokevirtual 72, 3) := by decide +kernel
theorem dX4_readField_35 : decode cX4_readField 35 = .ok (.aload_n 0, 1) := by decide +kernel
theorem dX4_readField_36 : decode cX4_readField 36 = .ok (.getfield 15, 3) := by decide +kernel
theorem dX4_readField_39 : decode cX4_readField 39 = .ok (.aload_n 0, 1) := by decide +kernel
theorem dX4_readField_40 : decode cX4_readField 40 = .ok (.getfield 148, 3) := by decide +kernel
theorem dX4_readField_43 : decode cX4_readField 43 = .ok (.aload_n 0, 1) := by decide +kernel
theorem dX4_readField_44 : decode cX4_readField 44 = .ok (.getfield 9, 3) := by decide +kernel
theorem dX4_readField_47 : decode cX4_readField 47 = .ok (.getfield 129, 3) := by decide +kernel
theorem dX4_readField_50 : decode cX4_readField 50 = .ok (.invokevirtual 171, 3) := by decide +kernel
theorem dX4_readField_53 : decode cX4_readField 53 = .ok (.iconst (-1), 1) := by decide +kernel
theorem dX4_readField_54 : decode cX4_readField 54 = .ok (.if_icmp .eq 15, 3) := by decide +kernel
theorem dX4_readField_57 : decode cX4_readField 57 = .ok (.aload_n 0, 1) := by decide +kernel
theorem dX4_readField_58 : decode cX4_readField 58 = .ok (.iconst 2, 1) := by decide +kernel
theorem dX4_readField_59 : decode cX4_readField 59 = .ok (.aload_n 0, 1) := by decide +kernel
theorem dX4_readField_60 : decode cX4_readField 60 = .ok (.getfield 9, 3) := by decide +kernel
theorem dX4_readField_63 : decode cX4_readField 63 = .ok (.getfield 92, 3) := by decide +kernel
theorem dX4_readField_66 : decode cX4_readField 66 = .ok (.invokevirtual 95, 3) := by decide +kernel
theorem dX4_readField_69 : decode cX4_readField 69 = .ok (.aload_n 0, 1) := by decide +kernel
theorem dX4_readField_70 : decode cX4_readField 70 = .ok (.getfield 15, 3) := by decide +kernel
theorem dX4_readField_73 : decode cX4_readField 73 = .ok (.aload_n 0, 1) := by decide +kernel
theorem dX4_readField_74 : decode cX4_readField 74 = .ok (.getfield 148, 3) := by decide +kernel
theorem dX4_readField_77 : decode cX4_readField 77 = .ok (.aload_n 0, 1) := by decide +kernel
theorem dX4_readField_78 : decode cX4_readField 78 = .ok (.getfield 9, 3) := by decide +kernel
theorem dX4_readField_81 : decode cX4_readField 81 = .ok (.getfield 129, 3) := by decide +kernel
theorem dX4_readField_84 : decode cX4_readField 84 = .ok (.invokevirtual 175, 3) := by decide +kernel
theorem dX4_readField_87 : decode cX4_readField 87 = .ok (.aload_n 0, 1) := by decide +kernel
theorem dX4_readField_88 : decode cX4_readField 88 = .ok (.getfield 9, 3) := by decide +kernel
theorem dX4_readField_91 : decode cX4_readField 91 = .ok (.invokevirtual 99, 3) := by decide +kernel
theorem dX4_readField_94 : decode cX4_readField 94 = .ok (.aload_n 0, 1) := by decide +kernel
theorem dX4_readField_95 : decode cX4_readField 95 = .ok (.bipush 59, 2) := by decide +kernel
theorem dX4_readField_97 : decode cX4_readField 97 = .ok (.invokevirtual 118, 3) := by decide +kernel
theorem dX4_readField_100 : decode cX4_readField 100 = .ok (.return_, 1) := by decide +kernel
theorem dX4_readMethod_0 : decode cX4_readMethod 0 = .ok (.aload_n 0, 1) := by decide +kernel
theorem dX4_readMethod_1 : decode cX4_readMethod 1 = .ok (.aload_n 0, 1) := by decide +kernel
theorem dX4_readMethod_2 : decode cX4_readMethod 2 = .ok (.getfield 15, 3) := by decide +kernel
theorem dX4_readMethod_5 : decode cX4_readMethod 5 = .ok (.aload_n 0, 1) := by decide +kernel
theorem dX4_readMethod_6 : decode cX4_readMethod 6 = .ok (.getfield 148, 3) := by decide +kernel
theorem dX4_readMethod_9 : decode cX4_readMethod 9 = .ok (.invokevirtual 179, 3) := by decide +kernel
theorem dX4_readMethod_12 : decode cX4_readMethod 12 = .ok (.bipush 12, 2) := by decide +kernel
theorem dX4_readMethod_14 : decode cX4_readMethod 14 = .ok (.if_icmp .ge 7, 3) := by decide +kernel
theorem dX4_readMethod_17 : decode cX4_readMethod 17 = .ok (.iconst 1, 1) := by decide +kernel
theorem dX4_readMethod_18 : decode cX4_readMethod 18 = .ok (.goto 4, 3) := by decide +kernel
theorem dX4_readMethod_21 : decode cX4_readMethod 21 = .ok (.iconst 0, 1) := by decide +kernel
theorem dX4_readMethod_22 : decode cX4_readMethod 22 = .ok (.invokevirtual 72, 3) := by decide +kernel
theorem dX4_readMethod_25 : decode cX4_readMethod 25 = .ok (.aload_n 0, 1) := by decide +kernel
theorem dX4_readMethod_26 : decode cX4_readMethod 26 = .ok (.aload_n 0, 1) := by decide +kernel
theorem dX4_readMethod_27 : decode cX4_readMethod 27 = .ok (.iconst 0, 1) := by decide +kernel
theorem dX4_readMethod_28 : decode cX4_readMethod 28 = .ok (.invokevirtual 182, 3) := by decide +kernel
theorem dX4_readMethod_31 : decode cX4_readMethod 31 = .ok (.putfield 44, 3) := by decide +kernel
theorem dX4_readMethod_34 : decode cX4_readMethod 34 = .ok (.aload_n 0, 1) := by decide +kernel
theorem dX4_readMethod_35 : decode cX4_readMethod 35 = .ok (.aload_n 0, 1) := by decide +kernel
theorem dX4_readMethod_36 : decode cX4_readMethod 36 = .ok (.getfield 44, 3) := by decide +kernel
theorem dX4_readMethod_39 : decode cX4_readMethod 39 = .ok (.putfield 48, 3) := by decide +kernel
theorem dX4_readMethod_42 : decode cX4_readMethod 42 = .ok (.aload_n 0, 1) := by decide +kernel
theorem dX4_readMethod_43 : decode cX4_readMethod 43 = .ok (.getfield 9, 3) := by decide +kernel
theorem dX4_readMethod_46 : decode cX4_readMethod 46 = .ok (.getfield 129, 3) := by decide +kernel
theorem dX4_readMethod_49 : decode cX4_readMethod 49 = .ok (.lstore_n 1, 1) := by decide +kernel
theorem dX4_readMethod_50 : decode cX4_readMethod 50 = .ok (.aload_n 0, 1) := by decide +kernel
theorem dX4_readMethod_51 : decode cX4_readMethod 51 = .ok (.getfield 9, 3) := by decide +kernel
theorem dX4_readMethod_54 : decode cX4_readMethod 54 = .ok (.invokevirtual 99, 3) := by decide +kernel
theorem dX4_readMethod_57 : decode cX4_readMethod 57 = .ok (.aload_n 0, 1) := by decide +kernel
theorem dX4_readMethod_58 : decode cX4_readMethod 58 = .ok (.bipush 40, 2) := by decide +kernel
theorem dX4_readMethod_60 : decode cX4_readMethod 60 = .ok (.invokevirtual 118, 3) := by decide +kernel
theorem dX4_readMethod_63 : decode cX4_readMethod 63 = .ok (.aload_n 0, 1) := by decide +kernel
theorem dX4_readMethod_64 : decode cX4_readMethod 64 = .ok (.invokevirtual 185, 3) := by decide +kernel
theorem dX4_readMethod_67 : decode cX4_readMethod 67 = .ok (.aload_n 0, 1) := by decide +kernel
theorem dX4_readMethod_68 : decode cX4_readMethod 68 = .ok (.aload_n 0, 1) := by decide +kernel
theorem dX4_readMethod_69 : decode cX4_readMethod 69 = .ok (.getfield 9, 3) := by decide +kernel
theorem dX4_readMethod_72 : decode cX4_readMethod 72 = .ok (.getfield 67, 3) := by decide +kernel
theorem dX4_readMethod_75 : decode cX4_readMethod 75 = .ok (.bipush 41, 2) := by decide +kernel
theorem dX4_readMethod_77 : decode cX4_readMethod 77 = .ok (.if_icmp .ne 7, 3) := by decide +kernel
theorem dX4_readMethod_80 : decode cX4_readMethod 80 = .ok (.iconst 1, 1) := by decide +kernel
theorem dX4_readMethod_81 : decode cX4_readMethod 81 = .ok (.goto 4, 3) := by decide +kernel
theorem dX4_readMethod_84 : decode cX4_readMethod 84 = .ok (.iconst 0, 1) := by decide +kernel
theorem dX4_readMethod_85 : decode cX4_readMethod 85 = .ok (.invokevirtual 82, 3) := by decide +kernel
theorem dX4_readMethod_88 : decode cX4_readMethod 88 = .ok (.aload_n 0, 1) := by decide +kernel
theorem dX4_readMethod_89 : decode cX4_readMethod 89 = .ok (.getfield 15, 3) := by decide +kernel
theorem dX4_readMethod_92 : decode cX4_readMethod 92 = .ok (.aload_n 0, 1) := by decide +kernel
theorem dX4_readMethod_93 : decode cX4_readMethod 93 = .ok (.getfield 148, 3) := by decide +kernel
theorem dX4_readMethod_96 : decode cX4_readMethod 96 = .ok (.lload_n 1, 1) := by decide +kernel
theorem dX4_readMethod_97 : decode cX4_readMethod 97 = .ok (.aload_n 0, 1) := by decide +kernel
theorem dX4_readMethod_98 : decode cX4_readMethod 98 = .ok (.getfield 44, 3) := by decide +kernel
theorem dX4_readMethod_101 : decode cX4_readMethod 101 = .ok (.getfield 188, 3) := by decide +kernel
theorem dX4_readMethod_104 : decode cX4_readMethod 104 = .ok (.invokevirtual 193, 3) := by decide +kernel
theorem dX4_readMethod_107 : decode cX4_readMethod 107 = .ok (.iconst (-1), 1) := by decide +kernel
theorem dX4_readMethod_108 : decode cX4_readMethod 108 = .ok (.if_icmp .eq 15, 3) := by decide +kernel
theorem dX4_readMethod_111 : decode cX4_readMethod 111 = .ok (.aload_n 0, 1) := by decide +kernel
theorem dX4_readMethod_112 : decode cX4_readMethod 112 = .ok (.iconst 2, 1) := by decide +kernel
theorem dX4_readMethod_113 : decode cX4_readMethod 113 = .ok (.aload_n 0, 1) := by decide +kernel
theorem dX4_readMethod_114 : decode cX4_readMethod 114 = .ok (.getfield 44, 3) := by decide +kernel
theorem dX4_readMethod_117 : decode cX4_readMethod 117 = .ok (.getfield 197, 3) := by decide +kernel
theorem dX4_readMethod_120 : decode cX4_readMethod 120 = .ok (.invokevirtual 95, 3) := by decide +kernel
theorem dX4_readMethod_123 : decode cX4_readMethod 123 = .ok (.aload_n 0, 1) := by decide +kernel
theorem dX4_readMethod_124 : decode cX4_readMethod 124 = .ok (.getfield 44, 3) := by decide +kernel
theorem dX4_readMethod_127 : decode cX4_readMethod 127 = .ok (.lload_n 1, 1) := by decide +kernel
theorem dX4_readMethod_128 : decode cX4_readMethod 128 = .ok (.putfield 200, 3) := by decide +kernel
theorem dX4_readMethod_131 : decode cX4_readMethod 131 = .ok (.aload_n 0, 1) := by decide +kernel
theorem dX4_readMethod_132 : decode cX4_readMethod 132 = .ok (.getfield 15, 3) := by decide +kernel
theorem dX4_readMethod_135 : decode cX4_readMethod 135 = .ok (.aload_n 0, 1) := by decide +kernel
theorem dX4_readMethod_136 : decode cX4_readMethod 136 = .ok (.getfield 148, 3) := by decide +kernel
theorem dX4_readMethod_139 : decode cX4_readMethod 139 = .ok (.aload_n 0, 1) := by decide +kernel
theorem dX4_readMethod_140 : decode cX4_readMethod 140 = .ok (.getfield 44, 3) := by decide +kernel
theorem dX4_readMethod_143 : decode cX4_readMethod 143 = .ok (.getfield 203, 3) := by decide +kernel
theorem dX4_readMethod_146 : decode cX4_readMethod 146 = .ok (.invokevirtual 206, 3) := by decide +kernel
theorem dX4_readMethod_149 : decode cX4_readMethod 149 = .ok (.aload_n 0, 1) := by decide +kernel
theorem dX4_readMethod_150 : decode cX4_readMethod 150 = .ok (.getfield 9, 3) := by decide +kernel
theorem dX4_readMethod_153 : decode cX4_readMethod 153 = .ok (.invokevirtual 99, 3) := by decide +kernel
theorem dX4_readMethod_156 : decode cX4_readMethod 156 = .ok (.aload_n 0, 1) := by decide +kernel
theorem dX4_readMethod_157 : decode cX4_readMethod 157 = .ok (.bipush 61, 2) := by decide +kernel
theorem dX4_readMethod_159 : decode cX4_readMethod 159 = .ok (.invokevirtual 118, 3) := by decide +kernel
theorem dX4_readMethod_162 : decode cX4_readMethod 162 = .ok (.aload_n 0, 1) := by decide +kernel
theorem dX4_readMethod_163 : decode cX4_readMethod 163 = .ok (.iconst 1, 1) := by decide +kernel
theorem dX4_readMethod_164 : decode cX4_readMethod 164 = .ok (.invokevirtual 209, 3) := by decide +kernel
theorem dX4_readMethod_167 : decode cX4_readMethod 167 = .ok (.aload_n 0, 1) := by decide +kernel
theorem dX4_readMethod_168 : decode cX4_readMethod 168 = .ok (.getfield 44, 3) := by decide +kernel
theorem dX4_readMethod_171 : decode cX4_readMethod 171 = .ok (.bipush 28, 2) := by decide +kernel
theorem dX4_readMethod_173 : decode cX4_readMethod 173 = .ok (.iconst 0, 1) := by decide +kernel
theorem dX4_readMethod_174 : decode cX4_readMethod 174 = .ok (.iconst 0, 1) := by decide +kernel
theorem dX4_readMethod_175 : decode cX4_readMethod 175 = .ok (.invokevirtual 212, 3) := by decide +kernel
theorem dX4_readMethod_178 : decode cX4_readMethod 178 = .ok (.aload_n 0, 1) := by decide +kernel
theorem dX4_readMethod_179 : decode cX4_readMethod 179 = .ok (.iconst 0, 1) := by decide +kernel
theorem dX4_readMethod_180 : decode cX4_readMethod 180 = .ok (.putfield 61, 3) := by decide +kernel
theorem dX4_readMethod_183 : decode cX4_readMethod 183 = .ok (.aload_n 0, 1) := by decide +kernel
theorem dX4_readMethod_184 : decode cX4_readMethod 184 = .ok (.bipush 59, 2) := by decide +kernel
theorem dX4_readMethod_186 : decode cX4_readMethod 186 = .ok (.invokevirtual 118, 3) := by decide +kernel
theorem dX4_readMethod_189 : decode cX4_readMethod 189 = .ok (.return_, 1) := by decide +kernel
theorem dX4_openUnit_0 : decode cX4_openUnit 0 = .ok (.aload_n 0, 1) := by decide +kernel
theorem dX4_openUnit_1 : decode cX4_openUnit 1 = .ok (.aload_n 0, 1) := by decide +kernel
theorem dX4_openUnit_2 : decode cX4_openUnit 2 = .ok (.getfield 15, 3) := by decide +kernel
theorem dX4_openUnit_5 : decode cX4_openUnit 5 = .ok (.getfield 216, 3) := by decide +kernel
theorem dX4_openUnit_8 : decode cX4_openUnit 8 = .ok (.bipush 60, 2) := by decide +kernel
theorem dX4_openUnit_10 : decode cX4_openUnit 10 = .ok (.if_icmp .ge 7, 3) := by decide +kernel
theorem dX4_openUnit_13 : decode cX4_openUnit 13 = .ok (.iconst 1, 1) := by decide +kernel
theorem dX4_openUnit_14 : decode cX4_openUnit 14 = .ok (.goto 4, 3) := by decide +kernel
theorem dX4_openUnit_17 : decode cX4_openUnit 17 = .ok (.iconst 0, 1) := by decide +kernel
theorem dX4_openUnit_18 : decode cX4_openUnit 18 = .ok (.invokevirtual 72, 3) := by decide +kernel
theorem dX4_openUnit_21 : decode cX4_openUnit 21 = .ok (.aload_n 0, 1) := by decide +kernel
theorem dX4_openUnit_22 : decode cX4_openUnit 22 = .ok (.getfield 15, 3) := by decide +kernel
theorem dX4_openUnit_25 : decode cX4_openUnit 25 = .ok (.iload_n 1, 1) := by decide +kernel
theorem dX4_openUnit_26 : decode cX4_openUnit 26 = .ok (.aload_n 0, 1) := by decide +kernel
theorem dX4_openUnit_27 : decode cX4_openUnit 27 = .ok (.getfield 148, 3) := by decide +kernel
theorem dX4_openUnit_30 : decode cX4_openUnit 30 = .ok (.aload_n 0, 1) := by decide +kernel
theorem dX4_openUnit_31 : decode cX4_openUnit 31 = .ok (.getfield 9, 3) := by decide +kernel
theorem dX4_openUnit_34 : decode cX4_openUnit 34 = .ok (.getfield 92, 3) := by decide +kernel
theorem dX4_openUnit_37 : decode cX4_openUnit 37 = .ok (.invokevirtual 219, 3) := by decide +kernel
theorem dX4_openUnit_40 : decode cX4_openUnit 40 = .ok (.astore_n 2, 1) := by decide +kernel
theorem dX4_openUnit_41 : decode cX4_openUnit 41 = .ok (.aload_n 2, 1) := by decide +kernel
theorem dX4_openUnit_42 : decode cX4_openUnit 42 = .ok (.iload_n 1, 1) := by decide +kernel
theorem dX4_openUnit_43 : decode cX4_openUnit 43 = .ok (.ifCond .ne 10, 3) := by decide +kernel
theorem dX4_openUnit_46 : decode cX4_openUnit 46 = .ok (.aload_n 2, 1) := by decide +kernel
theorem dX4_openUnit_47 : decode cX4_openUnit 47 = .ok (.getfield 203, 3) := by decide +kernel
theorem dX4_openUnit_50 : decode cX4_openUnit 50 = .ok (.goto 10, 3) := by decide +kernel
theorem dX4_openUnit_53 : decode cX4_openUnit 53 = .ok (.aload_n 0, 1) := by decide +kernel
theorem dX4_openUnit_54 : decode cX4_openUnit 54 = .ok (.getfield 48, 3) := by decide +kernel
theorem dX4_openUnit_57 : decode cX4_openUnit 57 = .ok (.getfield 203, 3) := by decide +kernel
theorem dX4_openUnit_60 : decode cX4_openUnit 60 = .ok (.putfield 223, 3) := by decide +kernel
theorem dX4_openUnit_63 : decode cX4_openUnit 63 = .ok (.aload_n 2, 1) := by decide +kernel
theorem dX4_openUnit_64 : decode cX4_openUnit 64 = .ok (.areturn, 1) := by decide +kernel
theorem dX4_closeInner_0 : decode cX4_closeInner 0 = .ok (.aload_n 1, 1) := by decide +kernel
theorem dX4_closeInner_1 : decode cX4_closeInner 1 = .ok (.bipush 28, 2) := by decide +kernel
theorem dX4_closeInner_3 : decode cX4_closeInner 3 = .ok (.iconst 0, 1) := by decide +kernel
theorem dX4_closeInner_4 : decode cX4_closeInner 4 = .ok (.iconst 0, 1) := by decide +kernel
theorem dX4_closeInner_5 : decode cX4_closeInner 5 = .ok (.invokevirtual 212, 3) := by decide +kernel
theorem dX4_closeInner_8 : decode cX4_closeInner 8 = .ok (.aload_n 0, 1) := by decide +kernel
theorem dX4_closeInner_9 : decode cX4_closeInner 9 = .ok (.aload_n 0, 1) := by decide +kernel
theorem dX4_closeInner_10 : decode cX4_closeInner 10 = .ok (.getfield 15, 3) := by decide +kernel
theorem dX4_closeInner_13 : decode cX4_closeInner 13 = .ok (.aload_n 1, 1) := by decide +kernel
theorem dX4_closeInner_14 : decode cX4_closeInner 14 = .ok (.getfield 223, 3) := by decide +kernel
theorem dX4_closeInner_17 : decode cX4_closeInner 17 = .ok (.invokevirtual 38, 3) := by decide +kernel
theorem dX4_closeInner_20 : decode cX4_closeInner 20 = .ok (.putfield 48, 3) := by decide +kernel
theorem dX4_closeInner_23 : decode cX4_closeInner 23 = .ok (.iconst 0, 1) := by decide +kernel
theorem dX4_closeInner_24 : decode cX4_closeInner 24 = .ok (.istore_n 3, 1) := by decide +kernel
theorem dX4_closeInner_25 : decode cX4_closeInner 25 = .ok (.iload_n 3, 1) := by decide +kernel
theorem dX4_closeInner_26 : decode cX4_closeInner 26 = .ok (.aload_n 1, 1) := by decide +kernel
theorem dX4_closeInner_27 : decode cX4_closeInner 27 = .ok (.getfield 226, 3) := by decide +kernel
theorem dX4_closeInner_30 : decode cX4_closeInner 30 = .ok (.if_icmp .ge 24, 3) := by decide +kernel
theorem dX4_closeInner_33 : decode cX4_closeInner 33 = .ok (.aload_n 0, 1) := by decide +kernel
theorem dX4_closeInner_34 : decode cX4_closeInner 34 = .ok (.getfield 48, 3) := by decide +kernel
theorem dX4_closeInner_37 : decode cX4_closeInner 37 = .ok (.iconst 2, 1) := by decide +kernel
theorem dX4_closeInner_38 : decode cX4_closeInner 38 = .ok (.aload_n 1, 1) := by decide +kernel
theorem dX4_closeInner_39 : decode cX4_closeInner 39 = .ok (.getfield 229, 3) := by decide +kernel
theorem dX4_closeInner_42 : decode cX4_closeInner 42 = .ok (.iload_n 3, 1) := by decide +kernel
theorem dX4_closeInner_43 : decode cX4_closeInner 43 = .ok (.iaload, 1) := by decide +kernel
theorem dX4_closeInner_44 : decode cX4_closeInner 44 = .ok (.iconst 0, 1) := by decide +kernel
theorem dX4_closeInner_45 : decode cX4_closeInner 45 = .ok (.invokevirtual 212, 3) := by decide +kernel
theorem dX4_closeInner_48 : decode cX4_closeInner 48 = .ok (.iinc 3 1, 3) := by decide +kernel
theorem dX4_closeInner_51 : decode cX4_closeInner 51 = .ok (.goto (-26), 3) := by decide +kernel
theorem dX4_closeInner_54 : decode cX4_closeInner 54 = .ok (.aload_n 0, 1) := by decide +kernel
theorem dX4_closeInner_55 : decode cX4_closeInner 55 = .ok (.getfield 48, 3) := by decide +kernel
theorem dX4_closeInner_58 : decode cX4_closeInner 58 = .ok (.iload_n 2, 1) := by decide +kernel
theorem dX4_closeInner_59 : decode cX4_closeInner 59 = .ok (.aload_n 1, 1) := by decide +kernel
theorem dX4_closeInner_60 : decode cX4_closeInner 60 = .ok (.getfield 203, 3) := by decide +kernel
theorem dX4_closeInner_63 : decode cX4_closeInner 63 = .ok (.iconst 0, 1) := by decide +kernel
theorem dX4_closeInner_64 : decode cX4_closeInner 64 = .ok (.invokevirtual 212, 3) := by decide +kernel
theorem dX4_closeInner_67 : decode cX4_closeInner 67 = .ok (.return_, 1) := by decide +kernel
theorem dX4_readParameters_0 : decode cX4_readParameters 0 = .ok (.aload_n 0, 1) := by decide +kernel
theorem dX4_readParameters_1 : decode cX4_readParameters 1 = .ok (.getfield 61, 3) := by decide +kernel
theorem dX4_readParameters_4 : decode cX4_readParameters 4 = .ok (.istore_n 1, 1) := by decide +kernel
theorem dX4_readParameters_5 : decode cX4_readParameters 5 = .ok (.aload_n 0, 1) := by decide +kernel
theorem dX4_readParameters_6 : decode cX4_readParameters 6 = .ok (.getfield 9, 3) := by decide +kernel
theorem dX4_readParameters_9 : decode cX4_readParameters 9 = .ok (.getfield 67, 3) := by decide +kernel
theorem dX4_readParameters_12 : decode cX4_readParameters 12 = .ok (.bipush 41, 2) := by decide +kernel
theorem dX4_readParameters_14 : decode cX4_readParameters 14 = .ok (.if_icmp .eq 7, 3) := by decide +kernel
theorem dX4_readParameters_17 : decode cX4_readParameters 17 = .ok (.iconst 1, 1) := by decide +kernel
theorem dX4_readParameters_18 : decode cX4_readParameters 18 = .ok (.goto 4, 3) := by decide +kernel
theorem dX4_readParameters_21 : decode cX4_readParameters 21 = .ok (.iconst 0, 1) := by decide +kernel
theorem dX4_readParameters_22 : decode cX4_readParameters 22 = .ok (.istore_n 2, 1) := by decide +kernel
theorem dX4_readParameters_23 : decode cX4_readParameters 23 = .ok (.iconst 0, 1) := by decide +kernel
theorem dX4_readParameters_24 : decode cX4_readParameters 24 = .ok (.istore_n 3, 1) := by decide +kernel
theorem dX4_readParameters_25 : decode cX4_readParameters 25 = .ok (.iload_n 2, 1) := by decide +kernel
theorem dX4_readParameters_26 : decode cX4_readParameters 26 = .ok (.ifCond .eq 135, 3) := by decide +kernel
theorem dX4_readParameters_29 : decode cX4_readParameters 29 = .ok (.iload_n 3, 1) := by decide +kernel
theorem dX4_readParameters_30 : decode cX4_readParameters 30 = .ok (.iconst 3, 1) := by decide +kernel
theorem dX4_readParameters_31 : decode cX4_readParameters 31 = .ok (.if_icmp .gt 130, 3) := by decide +kernel
theorem dX4_readParameters_34 : decode cX4_readParameters 34 = .ok (.aload_n 0, 1) := by decide +kernel
theorem dX4_readParameters_35 : decode cX4_readParameters 35 = .ok (.invokevirtual 126, 3) := by decide +kernel
theorem dX4_readParameters_38 : decode cX4_readParameters 38 = .ok (.aload_n 0, 1) := by decide +kernel
theorem dX4_readParameters_39 : decode cX4_readParameters 39 = .ok (.iload_n 3, 1) := by decide +kernel
theorem dX4_readParameters_40 : decode cX4_readParameters 40 = .ok (.iconst 3, 1) := by decide +kernel
theorem dX4_readParameters_41 : decode cX4_readParameters 41 = .ok (.if_icmp .ge 16, 3) := by decide +kernel
theorem dX4_readParameters_44 : decode cX4_readParameters 44 = .ok (.aload_n 0, 1) := by decide +kernel
theorem dX4_readParameters_45 : decode cX4_readParameters 45 = .ok (.getfield 61, 3) := by decide +kernel
theorem dX4_readParameters_48 : decode cX4_readParameters 48 = .ok (.bipush 12, 2) := by decide +kernel
theorem dX4_readParameters_50 : decode cX4_readParameters 50 = .ok (.if_icmp .ge 7, 3) := by decide +kernel
theorem dX4_readParameters_53 : decode cX4_readParameters 53 = .ok (.iconst 1, 1) := by decide +kernel
theorem dX4_readParameters_54 : decode cX4_readParameters 54 = .ok (.goto 4, 3) := by decide +kernel
theorem dX4_readParameters_57 : decode cX4_readParameters 57 = .ok (.iconst 0, 1) := by decide +kernel
theorem dX4_readParameters_58 : decode cX4_readParameters 58 = .ok (.invokevirtual 72, 3) := by decide +kernel
theorem dX4_readParameters_61 : decode cX4_readParameters 61 = .ok (.aload_n 0, 1) := by decide +kernel
theorem dX4_readParameters_62 : decode cX4_readParameters 62 = .ok (.aload_n 0, 1) := by decide +kernel
theorem dX4_readParameters_63 : decode cX4_readParameters 63 = .ok (.getfield 9, 3) := by decide +kernel
theorem dX4_readParameters_66 : decode cX4_readParameters 66 = .ok (.getfield 129, 3) := by decide +kernel
theorem dX4_readParameters_69 : decode cX4_readParameters 69 = .ok (.invokevirtual 232, 3) := by decide +kernel
theorem dX4_readParameters_72 : decode cX4_readParameters 72 = .ok (.iload_n 1, 1) := by decide +kernel
theorem dX4_readParameters_73 : decode cX4_readParameters 73 = .ok (.if_icmp .lt 15, 3) := by decide +kernel
theorem dX4_readParameters_76 : decode cX4_readParameters 76 = .ok (.aload_n 0, 1) := by decide +kernel
theorem dX4_readParameters_77 : decode cX4_readParameters 77 = .ok (.iconst 2, 1) := by decide +kernel
theorem dX4_readParameters_78 : decode cX4_readParameters 78 = .ok (.aload_n 0, 1) := by decide +kernel
theorem dX4_readParameters_79 : decode cX4_readParameters 79 = .ok (.getfield 9, 3) := by decide +kernel
theorem dX4_readParameters_82 : decode cX4_readParameters 82 = .ok (.getfield 92, 3) := by decide +kernel
theorem dX4_readParameters_85 : decode cX4_readParameters 85 = .ok (.invokevirtual 95, 3) := by decide +kernel
theorem dX4_readParameters_88 : decode cX4_readParameters 88 = .ok (.aload_n 0, 1) := by decide +kernel
theorem dX4_readParameters_89 : decode cX4_readParameters 89 = .ok (.aload_n 0, 1) := by decide +kernel
theorem dX4_readParameters_90 : decode cX4_readParameters 90 = .ok (.getfield 9, 3) := by decide +kernel
theorem dX4_readParameters_93 : decode cX4_readParameters 93 = .ok (.getfield 129, 3) := by decide +kernel
theorem dX4_readParameters_96 : decode cX4_readParameters 96 = .ok (.aload_n 0, 1) := by decide +kernel
theorem dX4_readParameters_97 : decode cX4_readParameters 97 = .ok (.getfield 48, 3) := by decide +kernel
theorem dX4_readParameters_100 : decode cX4_readParameters 100 = .ok (.invokevirtual 235, 3) := by decide +kernel
theorem dX4_readParameters_103 : decode cX4_readParameters 103 = .ok (.invokevirtual 239, 3) := by decide +kernel
theorem dX4_readParameters_106 : decode cX4_readParameters 106 = .ok (.aload_n 0, 1) := by decide +kernel
theorem dX4_readParameters_107 : decode cX4_readParameters 107 = .ok (.getfield 48, 3) := by decide +kernel
theorem dX4_readParameters_110 : decode cX4_readParameters 110 = .ok (.dup, 1) := by decide +kernel
theorem dX4_readParameters_111 : decode cX4_readParameters 111 = .ok (.getfield 188, 3) := by decide +kernel
theorem dX4_readParameters_114 : decode cX4_readParameters 114 = .ok (.iconst 1, 1) := by decide +kernel
theorem dX4_readParameters_115 : decode cX4_readParameters 115 = .ok (.iadd, 1) := by decide +kernel
theorem dX4_readParameters_116 : decode cX4_readParameters 116 = .ok (.putfield 188, 3) := by decide +kernel
theorem dX4_readParameters_119 : decode cX4_readParameters 119 = .ok (.aload_n 0, 1) := by decide +kernel
theorem dX4_readParameters_120 : decode cX4_readParameters 120 = .ok (.getfield 9, 3) := by decide +kernel
theorem dX4_readParameters_123 : decode cX4_readParameters 123 = .ok (.invokevirtual 99, 3) := by decide +kernel
theorem dX4_readParameters_126 : decode cX4_readParameters 126 = .ok (.aload_n 0, 1) := by decide +kernel
theorem dX4_readParameters_127 : decode cX4_readParameters 127 = .ok (.getfield 9, 3) := by decide +kernel
theorem dX4_readParameters_130 : decode cX4_readParameters 130 = .ok (.getfield 67, 3) := by decide +kernel
theorem dX4_readParameters_133 : decode cX4_readParameters 133 = .ok (.bipush 44, 2) := by decide +kernel
theorem dX4_readParameters_135 : decode cX4_readParameters 135 = .ok (.if_icmp .ne 7, 3) := by decide +kernel
theorem dX4_readParameters_138 : decode cX4_readParameters 138 = .ok (.iconst 1, 1) := by decide +kernel
theorem dX4_readParameters_139 : decode cX4_readParameters 139 = .ok (.goto 4, 3) := by decide +kernel
theorem dX4_readParameters_142 : decode cX4_readParameters 142 = .ok (.iconst 0, 1) := by decide +kernel
theorem dX4_readParameters_143 : decode cX4_readParameters 143 = .ok (.istore_n 2, 1) := by decide +kernel
theorem dX4_readParameters_144 : decode cX4_readParameters 144 = .ok (.iload_n 2, 1) := by decide +kernel
theorem dX4_readParameters_145 : decode cX4_readParameters 145 = .ok (.ifCond .eq 10, 3) := by decide +kernel
theorem dX4_readParameters_148 : decode cX4_readParameters 148 = .ok (.aload_n 0, 1) := by decide +kernel
theorem dX4_readParameters_149 : decode cX4_readParameters 149 = .ok (.getfield 9, 3) := by decide +kernel
theorem dX4_readParameters_152 : decode cX4_readParameters 152 = .ok (.invokevirtual 99, 3) := by decide +kernel
theorem dX4_readParameters_155 : decode cX4_readParameters 155 = .ok (.iinc 3 1, 3) := by decide +kernel
theorem dX4_readParameters_158 : decode cX4_readParameters 158 = .ok (.goto (-133), 3) := by decide +kernel
theorem dX4_readParameters_161 : decode cX4_readParameters 161 = .ok (.return_, 1) := by decide +kernel
theorem dX4_declare_0 : decode cX4_declare 0 = .ok (.aload_n 0, 1) := by decide +kernel
theorem dX4_declare_1 : decode cX4_declare 1 = .ok (.getfield 61, 3) := by decide +kernel
theorem dX4_declare_4 : decode cX4_declare 4 = .ok (.bipush 12, 2) := by decide +kernel
theorem dX4_declare_6 : decode cX4_declare 6 = .ok (.if_icmp .ge 33, 3) := by decide +kernel
theorem dX4_declare_9 : decode cX4_declare 9 = .ok (.aload_n 0, 1) := by decide +kernel
theorem dX4_declare_10 : decode cX4_declare 10 = .ok (.getfield 30, 3) := by decide +kernel
theorem dX4_declare_13 : decode cX4_declare 13 = .ok (.aload_n 0, 1) := by decide +kernel
theorem dX4_declare_14 : decode cX4_declare 14 = .ok (.getfield 61, 3) := by decide +kernel
theorem dX4_declare_17 : decode cX4_declare 17 = .ok (.lload_n 1, 1) := by decide +kernel
theorem dX4_declare_18 : decode cX4_declare 18 = .ok (.lastore, 1) := by decide +kernel
theorem dX4_declare_19 : decode cX4_declare 19 = .ok (.aload_n 0, 1) := by decide +kernel
theorem dX4_declare_20 : decode cX4_declare 20 = .ok (.getfield 34, 3) := by decide +kernel
theorem dX4_declare_23 : decode cX4_declare 23 = .ok (.aload_n 0, 1) := by decide +kernel
theorem dX4_declare_24 : decode cX4_declare 24 = .ok (.getfield 61, 3) := by decide +kernel
theorem dX4_declare_27 : decode cX4_declare 27 = .ok (.iload_n 3, 1) := by decide +kernel
theorem dX4_declare_28 : decode cX4_declare 28 = .ok (.iastore, 1) := by decide +kernel
theorem dX4_declare_29 : decode cX4_declare 29 = .ok (.aload_n 0, 1) := by decide +kernel
theorem dX4_declare_30 : decode cX4_declare 30 = .ok (.dup, 1) := by decide +kernel
theorem dX4_declare_31 : decode cX4_declare 31 = .ok (.getfield 61, 3) := by decide +kernel
theorem dX4_declare_34 : decode cX4_declare 34 = .ok (.iconst 1, 1) := by decide +kernel
theorem dX4_declare_35 : decode cX4_declare 35 = .ok (.iadd, 1) := by decide +kernel
theorem dX4_declare_36 : decode cX4_declare 36 = .ok (.putfield 61, 3) := by decide +kernel
theorem dX4_declare_39 : decode cX4_declare 39 = .ok (.return_, 1) := by decide +kernel
theorem dX4_findVariable_0 : decode cX4_findVariable 0 = .ok (.aload_n 0, 1) := by decide +kernel
theorem dX4_findVariable_1 : decode cX4_findVariable 1 = .ok (.getfield 61, 3) := by decide +kernel
theorem dX4_findVariable_4 : decode cX4_findVariable 4 = .ok (.iconst 1, 1) := by decide +kernel
theorem dX4_findVariable_5 : decode cX4_findVariable 5 = .ok (.isub, 1) := by decide +kernel
theorem dX4_findVariable_6 : decode cX4_findVariable 6 = .ok (.istore_n 3, 1) := by decide +kernel
theorem dX4_findVariable_7 : decode cX4_findVariable 7 = .ok (.iload_n 3, 1) := by decide +kernel
theorem dX4_findVariable_8 : decode cX4_findVariable 8 = .ok (.ifCond .lt 20, 3) := by decide +kernel
theorem dX4_findVariable_11 : decode cX4_findVariable 11 = .ok (.aload_n 0, 1) := by decide +kernel
theorem dX4_findVariable_12 : decode cX4_findVariable 12 = .ok (.getfield 30, 3) := by decide +kernel
theorem dX4_findVariable_15 : decode cX4_findVariable 15 = .ok (.iload_n 3, 1) := by decide +kernel
theorem dX4_findVariable_16 : decode cX4_findVariable 16 = .ok (.laload, 1) := by decide +kernel
theorem dX4_findVariable_17 : decode cX4_findVariable 17 = .ok (.lload_n 1, 1) := by decide +kernel
theorem dX4_findVariable_18 : decode cX4_findVariable 18 = .ok (.lcmp, 1) := by decide +kernel
theorem dX4_findVariable_19 : decode cX4_findVariable 19 = .ok (.ifCond .eq 9, 3) := by decide +kernel
theorem dX4_findVariable_22 : decode cX4_findVariable 22 = .ok (.iinc 3 (-1), 3) := by decide +kernel
theorem dX4_findVariable_25 : decode cX4_findVariable 25 = .ok (.goto (-18), 3) := by decide +kernel
theorem dX4_findVariable_28 : decode cX4_findVariable 28 = .ok (.iload_n 3, 1) := by decide +kernel
theorem dX4_findVariable_29 : decode cX4_findVariable 29 = .ok (.ireturn, 1) := by decide +kernel
theorem dX4_part_0 : decode cX4_part 0 = .ok (.aload_n 0, 1) := by decide +kernel
theorem dX4_part_1 : decode cX4_part 1 = .ok (.aload_n 0, 1) := by decide +kernel
theorem dX4_part_2 : decode cX4_part 2 = .ok (.getfield 58, 3) := by decide +kernel
theorem dX4_part_5 : decode cX4_part 5 = .ok (.sipush 400, 3) := by decide +kernel
theorem dX4_part_8 : decode cX4_part 8 = .ok (.if_icmp .ge 7, 3) := by decide +kernel
theorem dX4_part_11 : decode cX4_part 11 = .ok (.iconst 1, 1) := by decide +kernel
theorem dX4_part_12 : decode cX4_part 12 = .ok (.goto 4, 3) := by decide +kernel
theorem dX4_part_15 : decode cX4_part 15 = .ok (.iconst 0, 1) := by decide +kernel
theorem dX4_part_16 : decode cX4_part 16 = .ok (.invokevirtual 72, 3) := by decide +kernel
theorem dX4_part_19 : decode cX4_part 19 = .ok (.aload_n 0, 1) := by decide +kernel
theorem dX4_part_20 : decode cX4_part 20 = .ok (.dup, 1) := by decide +kernel
theorem dX4_part_21 : decode cX4_part 21 = .ok (.getfield 58, 3) := by decide +kernel
theorem dX4_part_24 : decode cX4_part 24 = .ok (.iconst 1, 1) := by decide +kernel
theorem dX4_part_25 : decode cX4_part 25 = .ok (.iadd, 1) := by decide +kernel
theorem dX4_part_26 : decode cX4_part 26 = .ok (.putfield 58, 3) := by decide +kernel
theorem dX4_part_29 : decode cX4_part 29 = .ok (.return_, 1) := by decide +kernel
theorem dX4_getVariable_0 : decode cX4_getVariable 0 = .ok (.aload_n 0, 1) := by decide +kernel
theorem dX4_getVariable_1 : decode cX4_getVariable 1 = .ok (.getfield 48, 3) := by decide +kernel
theorem dX4_getVariable_4 : decode cX4_getVariable 4 = .ok (.astore_n 2, 1) := by decide +kernel
theorem dX4_getVariable_5 : decode cX4_getVariable 5 = .ok (.iload_n 1, 1) := by decide +kernel
theorem dX4_getVariable_6 : decode cX4_getVariable 6 = .ok (.invokestatic 243, 3) := by decide +kernel
theorem dX4_getVariable_9 : decode cX4_getVariable 9 = .ok (.istore_n 3, 1) := by decide +kernel
theorem dX4_getVariable_10 : decode cX4_getVariable 10 = .ok (.iconst 0, 1) := by decide +kernel
theorem dX4_getVariable_11 : decode cX4_getVariable 11 = .ok (.istore 4, 2) := by decide +kernel
theorem dX4_getVariable_13 : decode cX4_getVariable 13 = .ok (.iload 4, 2) := by decide +kernel
theorem dX4_getVariable_15 : decode cX4_getVariable 15 = .ok (.bipush 60, 2) := by decide +kernel
theorem dX4_getVariable_17 : decode cX4_getVariable 17 = .ok (.if_icmp .ge 34, 3) := by decide +kernel
theorem dX4_getVariable_20 : decode cX4_getVariable 20 = .ok (.aload_n 2, 1) := by decide +kernel
theorem dX4_getVariable_21 : decode cX4_getVariable 21 = .ok (.getfield 203, 3) := by decide +kernel
theorem dX4_getVariable_24 : decode cX4_getVariable 24 = .ok (.iload_n 3, 1) := by decide +kernel
theorem dX4_getVariable_25 : decode cX4_getVariable 25 = .ok (.if_icmp .eq 26, 3) := by decide +kernel
theorem dX4_getVariable_28 : decode cX4_getVariable 28 = .ok (.aload_n 2, 1) := by decide +kernel
theorem dX4_getVariable_29 : decode cX4_getVariable 29 = .ok (.iload_n 1, 1) := by decide +kernel
theorem dX4_getVariable_30 : decode cX4_getVariable 30 = .ok (.invokevirtual 246, 3) := by decide +kernel
theorem dX4_getVariable_33 : decode cX4_getVariable 33 = .ok (.aload_n 0, 1) := by decide +kernel
theorem dX4_getVariable_34 : decode cX4_getVariable 34 = .ok (.getfield 15, 3) := by decide +kernel
theorem dX4_getVariable_37 : decode cX4_getVariable 37 = .ok (.aload_n 2, 1) := by decide +kernel
theorem dX4_getVariable_38 : decode cX4_getVariable 38 = .ok (.getfield 223, 3) := by decide +kernel
theorem dX4_getVariable_41 : decode cX4_getVariable 41 = .ok (.invokevirtual 38, 3) := by decide +kernel
theorem dX4_getVariable_44 : decode cX4_getVariable 44 = .ok (.astore_n 2, 1) := by decide +kernel
theorem dX4_getVariable_45 : decode cX4_getVariable 45 = .ok (.iinc 4 1, 3) := by decide +kernel
theorem dX4_getVariable_48 : decode cX4_getVariable 48 = .ok (.goto (-35), 3) := by decide +kernel
theorem dX4_getVariable_51 : decode cX4_getVariable 51 = .ok (.aload_n 0, 1) := by decide +kernel
theorem dX4_getVariable_52 : decode cX4_getVariable 52 = .ok (.getfield 48, 3) := by decide +kernel
theorem dX4_getVariable_55 : decode cX4_getVariable 55 = .ok (.iconst 2, 1) := by decide +kernel
theorem dX4_getVariable_56 : decode cX4_getVariable 56 = .ok (.iload_n 1, 1) := by decide +kernel
theorem dX4_getVariable_57 : decode cX4_getVariable 57 = .ok (.iconst 0, 1) := by decide +kernel
theorem dX4_getVariable_58 : decode cX4_getVariable 58 = .ok (.invokevirtual 212, 3) := by decide +kernel
theorem dX4_getVariable_61 : decode cX4_getVariable 61 = .ok (.return_, 1) := by decide +kernel
theorem dX4_readExpression_0 : decode cX4_readExpression 0 = .ok (.aload_n 0, 1) := by decide +kernel
theorem dX4_readExpression_1 : decode cX4_readExpression 1 = .ok (.aload_n 0, 1) := by decide +kernel
theorem dX4_readExpression_2 : decode cX4_readExpression 2 = .ok (.getfield 9, 3) := by decide +kernel
theorem dX4_readExpression_5 : decode cX4_readExpression 5 = .ok (.invokevirtual 249, 3) := by decide +kernel
theorem dX4_readExpression_8 : decode cX4_readExpression 8 = .ok (.invokevirtual 82, 3) := by decide +kernel
theorem dX4_readExpression_11 : decode cX4_readExpression 11 = .ok (.aload_n 0, 1) := by decide +kernel
theorem dX4_readExpression_12 : decode cX4_readExpression 12 = .ok (.iload_n 1, 1) := by decide +kernel
theorem dX4_readExpression_13 : decode cX4_readExpression 13 = .ok (.bipush 24, 2) := by decide +kernel
theorem dX4_readExpression_15 : decode cX4_readExpression 15 = .ok (.if_icmp .gt 7, 3) := by decide +kernel
theorem dX4_readExpression_18 : decode cX4_readExpression 18 = .ok (.iconst 1, 1) := by decide +kernel
theorem dX4_readExpression_19 : decode cX4_readExpression 19 = .ok (.goto 4, 3) := by decide +kernel
theorem dX4_readExpression_22 : decode cX4_readExpression 22 = .ok (.iconst 0, 1) := by decide +kernel
theorem dX4_readExpression_23 : decode cX4_readExpression 23 = .ok (.invokevirtual 72, 3) := by decide +kernel
theorem dX4_readExpression_26 : decode cX4_readExpression 26 = .ok (.aload_n 0, 1) := by decide +kernel
theorem dX4_readExpression_27 : decode cX4_readExpression 27 = .ok (.getfield 9, 3) := by decide +kernel
theorem dX4_readExpression_30 : decode cX4_readExpression 30 = .ok (.getfield 67, 3) := by decide +kernel
theorem dX4_readExpression_33 : decode cX4_readExpression 33 = .ok (.lookupswitch 59 #[(213, 35), (215, 43), (218, 51)], 35) := by decide +kernel
theorem dX4_readExpression_68 : decode cX4_readExpression 68 = .ok (.aload_n 0, 1) := by decide +kernel
theorem dX4_readExpression_69 : decode cX4_readExpression 69 = .ok (.iload_n 1, 1) := by decide +kernel
theorem dX4_readExpression_70 : decode cX4_readExpression 70 = .ok (.invokevirtual 252, 3) := by decide +kernel
theorem dX4_readExpression_73 : decode cX4_readExpression 73 = .ok (.goto 24, 3) := by decide +kernel
theorem dX4_readExpression_76 : decode cX4_readExpression 76 = .ok (.aload_n 0, 1) := by decide +kernel
theorem dX4_readExpression_77 : decode cX4_readExpression 77 = .ok (.iload_n 1, 1) := by decide +kernel
theorem dX4_readExpression_78 : decode cX4_readExpression 78 = .ok (.invokevirtual 255, 3) := by decide +kernel
theorem dX4_readExpression_81 : decode cX4_readExpression 81 = .ok (.goto 16, 3) := by decide +kernel
theorem dX4_readExpression_84 : decode cX4_readExpression 84 = .ok (.aload_n 0, 1) := by decide +kernel
theorem dX4_readExpression_85 : decode cX4_readExpression 85 = .ok (.iload_n 1, 1) := by decide +kernel
theorem dX4_readExpression_86 : decode cX4_readExpression 86 = .ok (.invokevirtual 258, 3) := by decide +kernel
theorem dX4_readExpression_89 : decode cX4_readExpression 89 = .ok (.goto 8, 3) := by decide +kernel
theorem dX4_readExpression_92 : decode cX4_readExpression 92 = .ok (.aload_n 0, 1) := by decide +kernel
theorem dX4_readExpression_93 : decode cX4_readExpression 93 = .ok (.iload_n 1, 1) := by decide +kernel
theorem dX4_readExpression_94 : decode cX4_readExpression 94 = .ok (.invokevirtual 261, 3) := by decide +kernel
theorem dX4_readExpression_97 : decode cX4_readExpression 97 = .ok (.return_, 1) := by decide +kernel
theorem dX4_readLet_0 : decode cX4_readLet 0 = .ok (.aload_n 0, 1) := by decide +kernel
theorem dX4_readLet_1 : decode cX4_readLet 1 = .ok (.invokevirtual 264, 3) := by decide +kernel
theorem dX4_readLet_4 : decode cX4_readLet 4 = .ok (.aload_n 0, 1) := by decide +kernel
theorem dX4_readLet_5 : decode cX4_readLet 5 = .ok (.getfield 48, 3) := by decide +kernel
theorem dX4_readLet_8 : decode cX4_readLet 8 = .ok (.invokevirtual 235, 3) := by decide +kernel
theorem dX4_readLet_11 : decode cX4_readLet 11 = .ok (.istore_n 2, 1) := by decide +kernel
theorem dX4_readLet_12 : decode cX4_readLet 12 = .ok (.aload_n 0, 1) := by decide +kernel
theorem dX4_readLet_13 : decode cX4_readLet 13 = .ok (.getfield 9, 3) := by decide +kernel
theorem dX4_readLet_16 : decode cX4_readLet 16 = .ok (.invokevirtual 99, 3) := by decide +kernel
theorem dX4_readLet_19 : decode cX4_readLet 19 = .ok (.aload_n 0, 1) := by decide +kernel
theorem dX4_readLet_20 : decode cX4_readLet 20 = .ok (.invokevirtual 126, 3) := by decide +kernel
theorem dX4_readLet_23 : decode cX4_readLet 23 = .ok (.aload_n 0, 1) := by decide +kernel
theorem dX4_readLet_24 : decode cX4_readLet 24 = .ok (.aload_n 0, 1) := by decide +kernel
theorem dX4_readLet_25 : decode cX4_readLet 25 = .ok (.getfield 61, 3) := by decide +kernel
theorem dX4_readLet_28 : decode cX4_readLet 28 = .ok (.bipush 12, 2) := by decide +kernel
theorem dX4_readLet_30 : decode cX4_readLet 30 = .ok (.if_icmp .ge 7, 3) := by decide +kernel
theorem dX4_readLet_33 : decode cX4_readLet 33 = .ok (.iconst 1, 1) := by decide +kernel
theorem dX4_readLet_34 : decode cX4_readLet 34 = .ok (.goto 4, 3) := by decide +kernel
theorem dX4_readLet_37 : decode cX4_readLet 37 = .ok (.iconst 0, 1) := by decide +kernel
theorem dX4_readLet_38 : decode cX4_readLet 38 = .ok (.invokevirtual 72, 3) := by decide +kernel
theorem dX4_readLet_41 : decode cX4_readLet 41 = .ok (.aload_n 0, 1) := by decide +kernel
theorem dX4_readLet_42 : decode cX4_readLet 42 = .ok (.getfield 9, 3) := by decide +kernel
theorem dX4_readLet_45 : decode cX4_readLet 45 = .ok (.getfield 129, 3) := by decide +kernel
theorem dX4_readLet_48 : decode cX4_readLet 48 = .ok (.lstore_n 3, 1) := by decide +kernel
theorem dX4_readLet_49 : decode cX4_readLet 49 = .ok (.aload_n 0, 1) := by decide +kernel
theorem dX4_readLet_50 : decode cX4_readLet 50 = .ok (.getfield 9, 3) := by decide +kernel
theorem dX4_readLet_53 : decode cX4_readLet 53 = .ok (.invokevirtual 99, 3) := by decide +kernel
theorem dX4_readLet_56 : decode cX4_readLet 56 = .ok (.aload_n 0, 1) := by decide +kernel
theorem dX4_readLet_57 : decode cX4_readLet 57 = .ok (.bipush 61, 2) := by decide +kernel
theorem dX4_readLet_59 : decode cX4_readLet 59 = .ok (.invokevirtual 118, 3) := by decide +kernel
theorem dX4_readLet_62 : decode cX4_readLet 62 = .ok (.aload_n 0, 1) := by decide +kernel
theorem dX4_readLet_63 : decode cX4_readLet 63 = .ok (.iload_n 1, 1) := by decide +kernel
theorem dX4_readLet_64 : decode cX4_readLet 64 = .ok (.iconst 1, 1) := by decide +kernel
theorem dX4_readLet_65 : decode cX4_readLet 65 = .ok (.iadd, 1) := by decide +kernel
theorem dX4_readLet_66 : decode cX4_readLet 66 = .ok (.invokevirtual 209, 3) := by decide +kernel
theorem dX4_readLet_69 : decode cX4_readLet 69 = .ok (.aload_n 0, 1) := by decide +kernel
theorem dX4_readLet_70 : decode cX4_readLet 70 = .ok (.sipush 214, 3) := by decide +kernel
theorem dX4_readLet_73 : decode cX4_readLet 73 = .ok (.invokevirtual 118, 3) := by decide +kernel
theorem dX4_readLet_76 : decode cX4_readLet 76 = .ok (.aload_n 0, 1) := by decide +kernel
theorem dX4_readLet_77 : decode cX4_readLet 77 = .ok (.lload_n 3, 1) := by decide +kernel
theorem dX4_readLet_78 : decode cX4_readLet 78 = .ok (.iload_n 2, 1) := by decide +kernel
theorem dX4_readLet_79 : decode cX4_readLet 79 = .ok (.iload_n 1, 1) := by decide +kernel
theorem dX4_readLet_80 : decode cX4_readLet 80 = .ok (.invokevirtual 267, 3) := by decide +kernel
theorem dX4_readLet_83 : decode cX4_readLet 83 = .ok (.return_, 1) := by decide +kernel
theorem dX4_readBound_0 : decode cX4_readBound 0 = .ok (.aload_n 0, 1) := by decide +kernel
theorem dX4_readBound_1 : decode cX4_readBound 1 = .ok (.getfield 48, 3) := by decide +kernel
theorem dX4_readBound_4 : decode cX4_readBound 4 = .ok (.iconst 3, 1) := by decide +kernel
theorem dX4_readBound_5 : decode cX4_readBound 5 = .ok (.iload_n 3, 1) := by decide +kernel
theorem dX4_readBound_6 : decode cX4_readBound 6 = .ok (.iconst 0, 1) := by decide +kernel
theorem dX4_readBound_7 : decode cX4_readBound 7 = .ok (.invokevirtual 212, 3) := by decide +kernel
theorem dX4_readBound_10 : decode cX4_readBound 10 = .ok (.aload_n 0, 1) := by decide +kernel
theorem dX4_readBound_11 : decode cX4_readBound 11 = .ok (.lload_n 1, 1) := by decide +kernel
theorem dX4_readBound_12 : decode cX4_readBound 12 = .ok (.iload_n 3, 1) := by decide +kernel
theorem dX4_readBound_13 : decode cX4_readBound 13 = .ok (.invokevirtual 239, 3) := by decide +kernel
theorem dX4_readBound_16 : decode cX4_readBound 16 = .ok (.aload_n 0, 1) := by decide +kernel
theorem dX4_readBound_17 : decode cX4_readBound 17 = .ok (.iload 4, 2) := by decide +kernel
theorem dX4_readBound_19 : decode cX4_readBound 19 = .ok (.iconst 1, 1) := by decide +kernel
theorem dX4_readBound_20 : decode cX4_readBound 20 = .ok (.iadd, 1) := by decide +kernel
theorem dX4_readBound_21 : decode cX4_readBound 21 = .ok (.invokevirtual 209, 3) := by decide +kernel
theorem dX4_readBound_24 : decode cX4_readBound 24 = .ok (.aload_n 0, 1) := by decide +kernel
theorem dX4_readBound_25 : decode cX4_readBound 25 = .ok (.dup, 1) := by decide +kernel
theorem dX4_readBound_26 : decode cX4_readBound 26 = .ok (.getfield 61, 3) := by decide +kernel
theorem dX4_readBound_29 : decode cX4_readBound 29 = .ok (.iconst 1, 1) := by decide +kernel
theorem dX4_readBound_30 : decode cX4_readBound 30 = .ok (.isub, 1) := by decide +kernel
theorem dX4_readBound_31 : decode cX4_readBound 31 = .ok (.putfield 61, 3) := by decide +kernel
theorem dX4_readBound_34 : decode cX4_readBound 34 = .ok (.return_, 1) := by decide +kernel
theorem dX4_readIf_0 : decode cX4_readIf 0 = .ok (.aload_n 0, 1) := by decide +kernel
theorem dX4_readIf_1 : decode cX4_readIf 1 = .ok (.invokevirtual 264, 3) := by decide +kernel
theorem dX4_readIf_4 : decode cX4_readIf 4 = .ok (.aload_n 0, 1) := by decide +kernel
theorem dX4_readIf_5 : decode cX4_readIf 5 = .ok (.getfield 48, 3) := by decide +kernel
theorem dX4_readIf_8 : decode cX4_readIf 8 = .ok (.invokevirtual 271, 3) := by decide +kernel
theorem dX4_readIf_11 : decode cX4_readIf 11 = .ok (.istore_n 2, 1) := by decide +kernel
theorem dX4_readIf_12 : decode cX4_readIf 12 = .ok (.aload_n 0, 1) := by decide +kernel
theorem dX4_readIf_13 : decode cX4_readIf 13 = .ok (.getfield 48, 3) := by decide +kernel
theorem dX4_readIf_16 : decode cX4_readIf 16 = .ok (.invokevirtual 271, 3) := by decide +kernel
theorem dX4_readIf_19 : decode cX4_readIf 19 = .ok (.istore_n 3, 1) := by decide +kernel
theorem dX4_readIf_20 : decode cX4_readIf 20 = .ok (.aload_n 0, 1) := by decide +kernel
theorem dX4_readIf_21 : decode cX4_readIf 21 = .ok (.getfield 9, 3) := by decide +kernel
theorem dX4_readIf_24 : decode cX4_readIf 24 = .ok (.invokevirtual 99, 3) := by decide +kernel
theorem dX4_readIf_27 : decode cX4_readIf 27 = .ok (.aload_n 0, 1) := by decide +kernel
theorem dX4_readIf_28 : decode cX4_readIf 28 = .ok (.iload_n 1, 1) := by decide +kernel
theorem dX4_readIf_29 : decode cX4_readIf 29 = .ok (.iconst 1, 1) := by decide +kernel
theorem dX4_readIf_30 : decode cX4_readIf 30 = .ok (.iadd, 1) := by decide +kernel
theorem dX4_readIf_31 : decode cX4_readIf 31 = .ok (.invokevirtual 209, 3) := by decide +kernel
theorem dX4_readIf_34 : decode cX4_readIf 34 = .ok (.aload_n 0, 1) := by decide +kernel
theorem dX4_readIf_35 : decode cX4_readIf 35 = .ok (.getfield 48, 3) := by decide +kernel
theorem dX4_readIf_38 : decode cX4_readIf 38 = .ok (.bipush 18, 2) := by decide +kernel
theorem dX4_readIf_40 : decode cX4_readIf 40 = .ok (.iload_n 2, 1) := by decide +kernel
theorem dX4_readIf_41 : decode cX4_readIf 41 = .ok (.iconst 0, 1) := by decide +kernel
theorem dX4_readIf_42 : decode cX4_readIf 42 = .ok (.invokevirtual 212, 3) := by decide +kernel
theorem dX4_readIf_45 : decode cX4_readIf 45 = .ok (.aload_n 0, 1) := by decide +kernel
theorem dX4_readIf_46 : decode cX4_readIf 46 = .ok (.sipush 216, 3) := by decide +kernel
theorem dX4_readIf_49 : decode cX4_readIf 49 = .ok (.invokevirtual 118, 3) := by decide +kernel
theorem dX4_readIf_52 : decode cX4_readIf 52 = .ok (.aload_n 0, 1) := by decide +kernel
theorem dX4_readIf_53 : decode cX4_readIf 53 = .ok (.iload_n 1, 1) := by decide +kernel
theorem dX4_readIf_54 : decode cX4_readIf 54 = .ok (.iconst 1, 1) := by decide +kernel
theorem dX4_readIf_55 : decode cX4_readIf 55 = .ok (.iadd, 1) := by decide +kernel
theorem dX4_readIf_56 : decode cX4_readIf 56 = .ok (.invokevirtual 209, 3) := by decide +kernel
theorem dX4_readIf_59 : decode cX4_readIf 59 = .ok (.aload_n 0, 1) := by decide +kernel
theorem dX4_readIf_60 : decode cX4_readIf 60 = .ok (.getfield 48, 3) := by decide +kernel
theorem dX4_readIf_63 : decode cX4_readIf 63 = .ok (.bipush 17, 2) := by decide +kernel
theorem dX4_readIf_65 : decode cX4_readIf 65 = .ok (.iload_n 3, 1) := by decide +kernel
theorem dX4_readIf_66 : decode cX4_readIf 66 = .ok (.iconst 0, 1) := by decide +kernel
theorem dX4_readIf_67 : decode cX4_readIf 67 = .ok (.invokevirtual 212, 3) := by decide +kernel
theorem dX4_readIf_70 : decode cX4_readIf 70 = .ok (.aload_n 0, 1) := by decide +kernel
theorem dX4_readIf_71 : decode cX4_readIf 71 = .ok (.getfield 48, 3) := by decide +kernel
theorem dX4_readIf_74 : decode cX4_readIf 74 = .ok (.bipush 100, 2) := by decide +kernel
theorem dX4_readIf_76 : decode cX4_readIf 76 = .ok (.iload_n 2, 1) := by decide +kernel
theorem dX4_readIf_77 : decode cX4_readIf 77 = .ok (.iconst 0, 1) := by decide +kernel
theorem dX4_readIf_78 : decode cX4_readIf 78 = .ok (.invokevirtual 212, 3) := by decide +kernel
theorem dX4_readIf_81 : decode cX4_readIf 81 = .ok (.aload_n 0, 1) := by decide +kernel
theorem dX4_readIf_82 : decode cX4_readIf 82 = .ok (.sipush 217, 3) := by decide +kernel
theorem dX4_readIf_85 : decode cX4_readIf 85 = .ok (.invokevirtual 118, 3) := by decide +kernel
theorem dX4_readIf_88 : decode cX4_readIf 88 = .ok (.aload_n 0, 1) := by decide +kernel
theorem dX4_readIf_89 : decode cX4_readIf 89 = .ok (.iload_n 1, 1) := by decide +kernel
theorem dX4_readIf_90 : decode cX4_readIf 90 = .ok (.iconst 1, 1) := by decide +kernel
theorem dX4_readIf_91 : decode cX4_readIf 91 = .ok (.iadd, 1) := by decide +kernel
theorem dX4_readIf_92 : decode cX4_readIf 92 = .ok (.invokevirtual 209, 3) := by decide +kernel
theorem dX4_readIf_95 : decode cX4_readIf 95 = .ok (.aload_n 0, 1) := by decide +kernel
theorem dX4_readIf_96 : decode cX4_readIf 96 = .ok (.getfield 48, 3) := by decide +kernel
theorem dX4_readIf_99 : decode cX4_readIf 99 = .ok (.bipush 100, 2) := by decide +kernel
theorem dX4_readIf_101 : decode cX4_readIf 101 = .ok (.iload_n 3, 1) := by decide +kernel
theorem dX4_readIf_102 : decode cX4_readIf 102 = .ok (.iconst 0, 1) := by decide +kernel
theorem dX4_readIf_103 : decode cX4_readIf 103 = .ok (.invokevirtual 212, 3) := by decide +kernel
theorem dX4_readIf_106 : decode cX4_readIf 106 = .ok (.return_, 1) := by decide +kernel
theorem dX4_readTry_0 : decode cX4_readTry 0 = .ok (.aload_n 0, 1) := by decide +kernel
theorem dX4_readTry_1 : decode cX4_readTry 1 = .ok (.invokevirtual 264, 3) := by decide +kernel
theorem dX4_readTry_4 : decode cX4_readTry 4 = .ok (.aload_n 0, 1) := by decide +kernel
theorem dX4_readTry_5 : decode cX4_readTry 5 = .ok (.getfield 48, 3) := by decide +kernel
theorem dX4_readTry_8 : decode cX4_readTry 8 = .ok (.invokevirtual 271, 3) := by decide +kernel
theorem dX4_readTry_11 : decode cX4_readTry 11 = .ok (.istore_n 2, 1) := by decide +kernel
theorem dX4_readTry_12 : decode cX4_readTry 12 = .ok (.aload_n 0, 1) := by decide +kernel
theorem dX4_readTry_13 : decode cX4_readTry 13 = .ok (.getfield 48, 3) := by decide +kernel
theorem dX4_readTry_16 : decode cX4_readTry 16 = .ok (.invokevirtual 271, 3) := by decide +kernel
theorem dX4_readTry_19 : decode cX4_readTry 19 = .ok (.istore_n 3, 1) := by decide +kernel
theorem dX4_readTry_20 : decode cX4_readTry 20 = .ok (.aload_n 0, 1) := by decide +kernel
theorem dX4_readTry_21 : decode cX4_readTry 21 = .ok (.getfield 48, 3) := by decide +kernel
theorem dX4_readTry_24 : decode cX4_readTry 24 = .ok (.bipush 19, 2) := by decide +kernel
theorem dX4_readTry_26 : decode cX4_readTry 26 = .ok (.iload_n 2, 1) := by decide +kernel
theorem dX4_readTry_27 : decode cX4_readTry 27 = .ok (.iconst 0, 1) := by decide +kernel
theorem dX4_readTry_28 : decode cX4_readTry 28 = .ok (.invokevirtual 212, 3) := by decide +kernel
theorem dX4_readTry_31 : decode cX4_readTry 31 = .ok (.aload_n 0, 1) := by decide +kernel
theorem dX4_readTry_32 : decode cX4_readTry 32 = .ok (.getfield 9, 3) := by decide +kernel
theorem dX4_readTry_35 : decode cX4_readTry 35 = .ok (.invokevirtual 99, 3) := by decide +kernel
theorem dX4_readTry_38 : decode cX4_readTry 38 = .ok (.aload_n 0, 1) := by decide +kernel
theorem dX4_readTry_39 : decode cX4_readTry 39 = .ok (.iload_n 1, 1) := by decide +kernel
theorem dX4_readTry_40 : decode cX4_readTry 40 = .ok (.iconst 1, 1) := by decide +kernel
theorem dX4_readTry_41 : decode cX4_readTry 41 = .ok (.iadd, 1) := by decide +kernel
theorem dX4_readTry_42 : decode cX4_readTry 42 = .ok (.invokevirtual 209, 3) := by decide +kernel
theorem dX4_readTry_45 : decode cX4_readTry 45 = .ok (.aload_n 0, 1) := by decide +kernel
theorem dX4_readTry_46 : decode cX4_readTry 46 = .ok (.getfield 48, 3) := by decide +kernel
theorem dX4_readTry_49 : decode cX4_readTry 49 = .ok (.bipush 20, 2) := by decide +kernel
theorem dX4_readTry_51 : decode cX4_readTry 51 = .ok (.iconst 0, 1) := by decide +kernel
theorem dX4_readTry_52 : decode cX4_readTry 52 = .ok (.iconst 0, 1) := by decide +kernel
theorem dX4_readTry_53 : decode cX4_readTry 53 = .ok (.invokevirtual 212, 3) := by decide +kernel
theorem dX4_readTry_56 : decode cX4_readTry 56 = .ok (.aload_n 0, 1) := by decide +kernel
theorem dX4_readTry_57 : decode cX4_readTry 57 = .ok (.getfield 48, 3) := by decide +kernel
theorem dX4_readTry_60 : decode cX4_readTry 60 = .ok (.bipush 17, 2) := by decide +kernel
theorem dX4_readTry_62 : decode cX4_readTry 62 = .ok (.iload_n 3, 1) := by decide +kernel
theorem dX4_readTry_63 : decode cX4_readTry 63 = .ok (.iconst 0, 1) := by decide +kernel
theorem dX4_readTry_64 : decode cX4_readTry 64 = .ok (.invokevirtual 212, 3) := by decide +kernel
theorem dX4_readTry_67 : decode cX4_readTry 67 = .ok (.aload_n 0, 1) := by decide +kernel
theorem dX4_readTry_68 : decode cX4_readTry 68 = .ok (.getfield 48, 3) := by decide +kernel
theorem dX4_readTry_71 : decode cX4_readTry 71 = .ok (.bipush 100, 2) := by decide +kernel
theorem dX4_readTry_73 : decode cX4_readTry 73 = .ok (.iload_n 2, 1) := by decide +kernel
theorem dX4_readTry_74 : decode cX4_readTry 74 = .ok (.iconst 0, 1) := by decide +kernel
theorem dX4_readTry_75 : decode cX4_readTry 75 = .ok (.invokevirtual 212, 3) := by decide +kernel
theorem dX4_readTry_78 : decode cX4_readTry 78 = .ok (.aload_n 0, 1) := by decide +kernel
theorem dX4_readTry_79 : decode cX4_readTry 79 = .ok (.sipush 219, 3) := by decide +kernel
theorem dX4_readTry_82 : decode cX4_readTry 82 = .ok (.invokevirtual 118, 3) := by decide +kernel
theorem dX4_readTry_85 : decode cX4_readTry 85 = .ok (.aload_n 0, 1) := by decide +kernel
theorem dX4_readTry_86 : decode cX4_readTry 86 = .ok (.getfield 48, 3) := by decide +kernel
theorem dX4_readTry_89 : decode cX4_readTry 89 = .ok (.invokevirtual 235, 3) := by decide +kernel
theorem dX4_readTry_92 : decode cX4_readTry 92 = .ok (.istore 4, 2) := by decide +kernel
theorem dX4_readTry_94 : decode cX4_readTry 94 = .ok (.aload_n 0, 1) := by decide +kernel
theorem dX4_readTry_95 : decode cX4_readTry 95 = .ok (.invokevirtual 126, 3) := by decide +kernel
theorem dX4_readTry_98 : decode cX4_readTry 98 = .ok (.aload_n 0, 1) := by decide +kernel
theorem dX4_readTry_99 : decode cX4_readTry 99 = .ok (.aload_n 0, 1) := by decide +kernel
theorem dX4_readTry_100 : decode cX4_readTry 100 = .ok (.getfield 61, 3) := by decide +kernel
theorem dX4_readTry_103 : decode cX4_readTry 103 = .ok (.bipush 12, 2) := by decide +kernel
theorem dX4_readTry_105 : decode cX4_readTry 105 = .ok (.if_icmp .ge 7, 3) := by decide +kernel
theorem dX4_readTry_108 : decode cX4_readTry 108 = .ok (.iconst 1, 1) := by decide +kernel
theorem dX4_readTry_109 : decode cX4_readTry 109 = .ok (.goto 4, 3) := by decide +kernel
theorem dX4_readTry_112 : decode cX4_readTry 112 = .ok (.iconst 0, 1) := by decide +kernel
theorem dX4_readTry_113 : decode cX4_readTry 113 = .ok (.invokevirtual 72, 3) := by decide +kernel
theorem dX4_readTry_116 : decode cX4_readTry 116 = .ok (.aload_n 0, 1) := by decide +kernel
theorem dX4_readTry_117 : decode cX4_readTry 117 = .ok (.getfield 9, 3) := by decide +kernel
theorem dX4_readTry_120 : decode cX4_readTry 120 = .ok (.getfield 129, 3) := by decide +kernel
theorem dX4_readTry_123 : decode cX4_readTry 123 = .ok (.lstore 5, 2) := by decide +kernel
theorem dX4_readTry_125 : decode cX4_readTry 125 = .ok (.aload_n 0, 1) := by decide +kernel
theorem dX4_readTry_126 : decode cX4_readTry 126 = .ok (.getfield 9, 3) := by decide +kernel
theorem dX4_readTry_129 : decode cX4_readTry 129 = .ok (.invokevirtual 99, 3) := by decide +kernel
theorem dX4_readTry_132 : decode cX4_readTry 132 = .ok (.aload_n 0, 1) := by decide +kernel
theorem dX4_readTry_133 : decode cX4_readTry 133 = .ok (.bipush 58, 2) := by decide +kernel
theorem dX4_readTry_135 : decode cX4_readTry 135 = .ok (.invokevirtual 118, 3) := by decide +kernel
theorem dX4_readTry_138 : decode cX4_readTry 138 = .ok (.aload_n 0, 1) := by decide +kernel
theorem dX4_readTry_139 : decode cX4_readTry 139 = .ok (.lload 5, 2) := by decide +kernel
theorem dX4_readTry_141 : decode cX4_readTry 141 = .ok (.iload 4, 2) := by decide +kernel
theorem dX4_readTry_143 : decode cX4_readTry 143 = .ok (.iload_n 1, 1) := by decide +kernel
theorem dX4_readTry_144 : decode cX4_readTry 144 = .ok (.invokevirtual 267, 3) := by decide +kernel
theorem dX4_readTry_147 : decode cX4_readTry 147 = .ok (.aload_n 0, 1) := by decide +kernel
theorem dX4_readTry_148 : decode cX4_readTry 148 = .ok (.getfield 48, 3) := by decide +kernel
theorem dX4_readTry_151 : decode cX4_readTry 151 = .ok (.bipush 100, 2) := by decide +kernel
theorem dX4_readTry_153 : decode cX4_readTry 153 = .ok (.iload_n 3, 1) := by decide +kernel
theorem dX4_readTry_154 : decode cX4_readTry 154 = .ok (.iconst 0, 1) := by decide +kernel
theorem dX4_readTry_155 : decode cX4_readTry 155 = .ok (.invokevirtual 212, 3) := by decide +kernel
theorem dX4_readTry_158 : decode cX4_readTry 158 = .ok (.return_, 1) := by decide +kernel
theorem dX4_readComparison_0 : decode cX4_readComparison 0 = .ok (.aload_n 0, 1) := by decide +kernel
theorem dX4_readComparison_1 : decode cX4_readComparison 1 = .ok (.iload_n 1, 1) := by decide +kernel
theorem dX4_readComparison_2 : decode cX4_readComparison 2 = .ok (.invokevirtual 274, 3) := by decide +kernel
theorem dX4_readComparison_5 : decode cX4_readComparison 5 = .ok (.aload_n 0, 1) := by decide +kernel
theorem dX4_readComparison_6 : decode cX4_readComparison 6 = .ok (.getfield 9, 3) := by decide +kernel
theorem dX4_readComparison_9 : decode cX4_readComparison 9 = .ok (.getfield 67, 3) := by decide +kernel
theorem dX4_readComparison_12 : decode cX4_readComparison 12 = .ok (.bipush 60, 2) := by decide +kernel
theorem dX4_readComparison_14 : decode cX4_readComparison 14 = .ok (.if_icmp .eq 16, 3) := by decide +kernel
theorem dX4_readComparison_17 : decode cX4_readComparison 17 = .ok (.aload_n 0, 1) := by decide +kernel
theorem dX4_readComparison_18 : decode cX4_readComparison 18 = .ok (.getfield 9, 3) := by decide +kernel
theorem dX4_readComparison_21 : decode cX4_readComparison 21 = .ok (.getfield 67, 3) := by decide +kernel
theorem dX4_readComparison_24 : decode cX4_readComparison 24 = .ok (.sipush 201, 3) := by decide +kernel
theorem dX4_readComparison_27 : decode cX4_readComparison 27 = .ok (.if_icmp .ne 49, 3) := by decide +kernel
theorem dX4_readComparison_30 : decode cX4_readComparison 30 = .ok (.aload_n 0, 1) := by decide +kernel
theorem dX4_readComparison_31 : decode cX4_readComparison 31 = .ok (.getfield 9, 3) := by decide +kernel
theorem dX4_readComparison_34 : decode cX4_readComparison 34 = .ok (.getfield 67, 3) := by decide +kernel
theorem dX4_readComparison_37 : decode cX4_readComparison 37 = .ok (.bipush 60, 2) := by decide +kernel
theorem dX4_readComparison_39 : decode cX4_readComparison 39 = .ok (.if_icmp .ne 8, 3) := by decide +kernel
theorem dX4_readComparison_42 : decode cX4_readComparison 42 = .ok (.bipush 14, 2) := by decide +kernel
theorem dX4_readComparison_44 : decode cX4_readComparison 44 = .ok (.goto 5, 3) := by decide +kernel
theorem dX4_readComparison_47 : decode cX4_readComparison 47 = .ok (.bipush 15, 2) := by decide +kernel
theorem dX4_readComparison_49 : decode cX4_readComparison 49 = .ok (.istore_n 2, 1) := by decide +kernel
theorem dX4_readComparison_50 : decode cX4_readComparison 50 = .ok (.aload_n 0, 1) := by decide +kernel
theorem dX4_readComparison_51 : decode cX4_readComparison 51 = .ok (.invokevirtual 264, 3) := by decide +kernel
theorem dX4_readComparison_54 : decode cX4_readComparison 54 = .ok (.aload_n 0, 1) := by decide +kernel
theorem dX4_readComparison_55 : decode cX4_readComparison 55 = .ok (.getfield 9, 3) := by decide +kernel
theorem dX4_readComparison_58 : decode cX4_readComparison 58 = .ok (.invokevirtual 99, 3) := by decide +kernel
theorem dX4_readComparison_61 : decode cX4_readComparison 61 = .ok (.aload_n 0, 1) := by decide +kernel
theorem dX4_readComparison_62 : decode cX4_readComparison 62 = .ok (.iload_n 1, 1) := by decide +kernel
theorem dX4_readComparison_63 : decode cX4_readComparison 63 = .ok (.invokevirtual 274, 3) := by decide +kernel
theorem dX4_readComparison_66 : decode cX4_readComparison 66 = .ok (.aload_n 0, 1) := by decide +kernel
theorem dX4_readComparison_67 : decode cX4_readComparison 67 = .ok (.getfield 48, 3) := by decide +kernel
theorem dX4_readComparison_70 : decode cX4_readComparison 70 = .ok (.iload_n 2, 1) := by decide +kernel
theorem dX4_readComparison_71 : decode cX4_readComparison 71 = .ok (.iconst 0, 1) := by decide +kernel
theorem dX4_readComparison_72 : decode cX4_readComparison 72 = .ok (.iconst 0, 1) := by decide +kernel
theorem dX4_readComparison_73 : decode cX4_readComparison 73 = .ok (.invokevirtual 212, 3) := by decide +kernel
theorem dX4_readComparison_76 : decode cX4_readComparison 76 = .ok (.return_, 1) := by decide +kernel
theorem dX4_readSum_0 : decode cX4_readSum 0 = .ok (.aload_n 0, 1) := by decide +kernel
theorem dX4_readSum_1 : decode cX4_readSum 1 = .ok (.iload_n 1, 1) := by decide +kernel
theorem dX4_readSum_2 : decode cX4_readSum 2 = .ok (.invokevirtual 277, 3) := by decide +kernel
theorem dX4_readSum_5 : decode cX4_readSum 5 = .ok (.iconst 0, 1) := by decide +kernel
theorem dX4_readSum_6 : decode cX4_readSum 6 = .ok (.istore_n 2, 1) := by decide +kernel
theorem dX4_readSum_7 : decode cX4_readSum 7 = .ok (.iload_n 2, 1) := by decide +kernel
theorem dX4_readSum_8 : decode cX4_readSum 8 = .ok (.sipush 3000, 3) := by decide +kernel
theorem dX4_readSum_11 : decode cX4_readSum 11 = .ok (.if_icmp .ge 79, 3) := by decide +kernel
theorem dX4_readSum_14 : decode cX4_readSum 14 = .ok (.aload_n 0, 1) := by decide +kernel
theorem dX4_readSum_15 : decode cX4_readSum 15 = .ok (.getfield 9, 3) := by decide +kernel
theorem dX4_readSum_18 : decode cX4_readSum 18 = .ok (.getfield 67, 3) := by decide +kernel
theorem dX4_readSum_21 : decode cX4_readSum 21 = .ok (.bipush 43, 2) := by decide +kernel
theorem dX4_readSum_23 : decode cX4_readSum 23 = .ok (.if_icmp .eq 15, 3) := by decide +kernel
theorem dX4_readSum_26 : decode cX4_readSum 26 = .ok (.aload_n 0, 1) := by decide +kernel
theorem dX4_readSum_27 : decode cX4_readSum 27 = .ok (.getfield 9, 3) := by decide +kernel
theorem dX4_readSum_30 : decode cX4_readSum 30 = .ok (.getfield 67, 3) := by decide +kernel
theorem dX4_readSum_33 : decode cX4_readSum 33 = .ok (.bipush 45, 2) := by decide +kernel
theorem dX4_readSum_35 : decode cX4_readSum 35 = .ok (.if_icmp .ne 55, 3) := by decide +kernel
theorem dX4_readSum_38 : decode cX4_readSum 38 = .ok (.aload_n 0, 1) := by decide +kernel
theorem dX4_readSum_39 : decode cX4_readSum 39 = .ok (.getfield 9, 3) := by decide +kernel
theorem dX4_readSum_42 : decode cX4_readSum 42 = .ok (.getfield 67, 3) := by decide +kernel
theorem dX4_readSum_45 : decode cX4_readSum 45 = .ok (.bipush 43, 2) := by decide +kernel
theorem dX4_readSum_47 : decode cX4_readSum 47 = .ok (.if_icmp .ne 8, 3) := by decide +kernel
theorem dX4_readSum_50 : decode cX4_readSum 50 = .ok (.bipush 11, 2) := by decide +kernel
theorem dX4_readSum_52 : decode cX4_readSum 52 = .ok (.goto 5, 3) := by decide +kernel
theorem dX4_readSum_55 : decode cX4_readSum 55 = .ok (.bipush 12, 2) := by decide +kernel
theorem dX4_readSum_57 : decode cX4_readSum 57 = .ok (.istore_n 3, 1) := by decide +kernel
theorem dX4_readSum_58 : decode cX4_readSum 58 = .ok (.aload_n 0, 1) := by decide +kernel
theorem dX4_readSum_59 : decode cX4_readSum 59 = .ok (.invokevirtual 264, 3) := by decide +kernel
theorem dX4_readSum_62 : decode cX4_readSum 62 = .ok (.aload_n 0, 1) := by decide +kernel
theorem dX4_readSum_63 : decode cX4_readSum 63 = .ok (.getfield 9, 3) := by decide +kernel
theorem dX4_readSum_66 : decode cX4_readSum 66 = .ok (.invokevirtual 99, 3) := by decide +kernel
theorem dX4_readSum_69 : decode cX4_readSum 69 = .ok (.aload_n 0, 1) := by decide +kernel
theorem dX4_readSum_70 : decode cX4_readSum 70 = .ok (.iload_n 1, 1) := by decide +kernel
theorem dX4_readSum_71 : decode cX4_readSum 71 = .ok (.invokevirtual 277, 3) := by decide +kernel
theorem dX4_readSum_74 : decode cX4_readSum 74 = .ok (.aload_n 0, 1) := by decide +kernel
theorem dX4_readSum_75 : decode cX4_readSum 75 = .ok (.getfield 48, 3) := by decide +kernel
theorem dX4_readSum_78 : decode cX4_readSum 78 = .ok (.iload_n 3, 1) := by decide +kernel
theorem dX4_readSum_79 : decode cX4_readSum 79 = .ok (.iconst 0, 1) := by decide +kernel
theorem dX4_readSum_80 : decode cX4_readSum 80 = .ok (.iconst 0, 1) := by decide +kernel
theorem dX4_readSum_81 : decode cX4_readSum 81 = .ok (.invokevirtual 212, 3) := by decide +kernel
theorem dX4_readSum_84 : decode cX4_readSum 84 = .ok (.iinc 2 1, 3) := by decide +kernel
theorem dX4_readSum_87 : decode cX4_readSum 87 = .ok (.goto (-80), 3) := by decide +kernel
theorem dX4_readSum_90 : decode cX4_readSum 90 = .ok (.return_, 1) := by decide +kernel
theorem dX4_readProduct_0 : decode cX4_readProduct 0 = .ok (.aload_n 0, 1) := by decide +kernel
theorem dX4_readProduct_1 : decode cX4_readProduct 1 = .ok (.iload_n 1, 1) := by decide +kernel
theorem dX4_readProduct_2 : decode cX4_readProduct 2 = .ok (.invokevirtual 280, 3) := by decide +kernel
theorem dX4_readProduct_5 : decode cX4_readProduct 5 = .ok (.iconst 0, 1) := by decide +kernel
theorem dX4_readProduct_6 : decode cX4_readProduct 6 = .ok (.istore_n 2, 1) := by decide +kernel
theorem dX4_readProduct_7 : decode cX4_readProduct 7 = .ok (.iload_n 2, 1) := by decide +kernel
theorem dX4_readProduct_8 : decode cX4_readProduct 8 = .ok (.sipush 3000, 3) := by decide +kernel
theorem dX4_readProduct_11 : decode cX4_readProduct 11 = .ok (.if_icmp .ge 48, 3) := by decide +kernel
theorem dX4_readProduct_14 : decode cX4_readProduct 14 = .ok (.aload_n 0, 1) := by decide +kernel
theorem dX4_readProduct_15 : decode cX4_readProduct 15 = .ok (.getfield 9, 3) := by decide +kernel
theorem dX4_readProduct_18 : decode cX4_readProduct 18 = .ok (.getfield 67, 3) := by decide +kernel
theorem dX4_readProduct_21 : decode cX4_readProduct 21 = .ok (.bipush 42, 2) := by decide +kernel
theorem dX4_readProduct_23 : decode cX4_readProduct 23 = .ok (.if_icmp .ne 36, 3) := by decide +kernel
theorem dX4_readProduct_26 : decode cX4_readProduct 26 = .ok (.aload_n 0, 1) := by decide +kernel
theorem dX4_readProduct_27 : decode cX4_readProduct 27 = .ok (.invokevirtual 264, 3) := by decide +kernel
theorem dX4_readProduct_30 : decode cX4_readProduct 30 = .ok (.aload_n 0, 1) := by decide +kernel
theorem dX4_readProduct_31 : decode cX4_readProduct 31 = .ok (.getfield 9, 3) := by decide +kernel
theorem dX4_readProduct_34 : decode cX4_readProduct 34 = .ok (.invokevirtual 99, 3) := by decide +kernel
theorem dX4_readProduct_37 : decode cX4_readProduct 37 = .ok (.aload_n 0, 1) := by decide +kernel
theorem dX4_readProduct_38 : decode cX4_readProduct 38 = .ok (.iload_n 1, 1) := by decide +kernel
theorem dX4_readProduct_39 : decode cX4_readProduct 39 = .ok (.invokevirtual 280, 3) := by decide +kernel
theorem dX4_readProduct_42 : decode cX4_readProduct 42 = .ok (.aload_n 0, 1) := by decide +kernel
theorem dX4_readProduct_43 : decode cX4_readProduct 43 = .ok (.getfield 48, 3) := by decide +kernel
theorem dX4_readProduct_46 : decode cX4_readProduct 46 = .ok (.bipush 13, 2) := by decide +kernel
theorem dX4_readProduct_48 : decode cX4_readProduct 48 = .ok (.iconst 0, 1) := by decide +kernel
theorem dX4_readProduct_49 : decode cX4_readProduct 49 = .ok (.iconst 0, 1) := by decide +kernel
theorem dX4_readProduct_50 : decode cX4_readProduct 50 = .ok (.invokevirtual 212, 3) := by decide +kernel
theorem dX4_readProduct_53 : decode cX4_readProduct 53 = .ok (.iinc 2 1, 3) := by decide +kernel
theorem dX4_readProduct_56 : decode cX4_readProduct 56 = .ok (.goto (-49), 3) := by decide +kernel
theorem dX4_readProduct_59 : decode cX4_readProduct 59 = .ok (.return_, 1) := by decide +kernel
theorem dX4_readInnerPrefix_0 : decode cX4_readInnerPrefix 0 = .ok (.aload_n 0, 1) := by decide +kernel
theorem dX4_readInnerPrefix_1 : decode cX4_readInnerPrefix 1 = .ok (.aload_n 0, 1) := by decide +kernel
theorem dX4_readInnerPrefix_2 : decode cX4_readInnerPrefix 2 = .ok (.getfield 9, 3) := by decide +kernel
theorem dX4_readInnerPrefix_5 : decode cX4_readInnerPrefix 5 = .ok (.invokevirtual 283, 3) := by decide +kernel
theorem dX4_readInnerPrefix_8 : decode cX4_readInnerPrefix 8 = .ok (.invokevirtual 82, 3) := by decide +kernel
theorem dX4_readInnerPrefix_11 : decode cX4_readInnerPrefix 11 = .ok (.aload_n 0, 1) := by decide +kernel
theorem dX4_readInnerPrefix_12 : decode cX4_readInnerPrefix 12 = .ok (.iload_n 1, 1) := by decide +kernel
theorem dX4_readInnerPrefix_13 : decode cX4_readInnerPrefix 13 = .ok (.bipush 24, 2) := by decide +kernel
theorem dX4_readInnerPrefix_15 : decode cX4_readInnerPrefix 15 = .ok (.if_icmp .gt 7, 3) := by decide +kernel
theorem dX4_readInnerPrefix_18 : decode cX4_readInnerPrefix 18 = .ok (.iconst 1, 1) := by decide +kernel
theorem dX4_readInnerPrefix_19 : decode cX4_readInnerPrefix 19 = .ok (.goto 4, 3) := by decide +kernel
theorem dX4_readInnerPrefix_22 : decode cX4_readInnerPrefix 22 = .ok (.iconst 0, 1) := by decide +kernel
theorem dX4_readInnerPrefix_23 : decode cX4_readInnerPrefix 23 = .ok (.invokevirtual 72, 3) := by decide +kernel
theorem dX4_readInnerPrefix_26 : decode cX4_readInnerPrefix 26 = .ok (.aload_n 0, 1) := by decide +kernel
theorem dX4_readInnerPrefix_27 : decode cX4_readInnerPrefix 27 = .ok (.iload_n 1, 1) := by decide +kernel
theorem dX4_readInnerPrefix_28 : decode cX4_readInnerPrefix 28 = .ok (.invokevirtual 280, 3) := by decide +kernel
theorem dX4_readInnerPrefix_31 : decode cX4_readInnerPrefix 31 = .ok (.return_, 1) := by decide +kernel
theorem dX4_readPrefix_0 : decode cX4_readPrefix 0 = .ok (.aload_n 0, 1) := by decide +kernel
theorem dX4_readPrefix_1 : decode cX4_readPrefix 1 = .ok (.aload_n 0, 1) := by decide +kernel
theorem dX4_readPrefix_2 : decode cX4_readPrefix 2 = .ok (.getfield 9, 3) := by decide +kernel
theorem dX4_readPrefix_5 : decode cX4_readPrefix 5 = .ok (.invokevirtual 283, 3) := by decide +kernel
theorem dX4_readPrefix_8 : decode cX4_readPrefix 8 = .ok (.invokevirtual 82, 3) := by decide +kernel
theorem dX4_readPrefix_11 : decode cX4_readPrefix 11 = .ok (.aload_n 0, 1) := by decide +kernel
theorem dX4_readPrefix_12 : decode cX4_readPrefix 12 = .ok (.getfield 9, 3) := by decide +kernel
theorem dX4_readPrefix_15 : decode cX4_readPrefix 15 = .ok (.getfield 67, 3) := by decide +kernel
theorem dX4_readPrefix_18 : decode cX4_readPrefix 18 = .ok (.tableswitch 122 220 232 #[106, 114, 122, 122, 122, 122, 122, 122, 122, 66, 86, 96, 76], 66) := by decide +kernel
theorem dX4_readPrefix_84 : decode cX4_readPrefix 84 = .ok (.aload_n 0, 1) := by decide +kernel
theorem dX4_readPrefix_85 : decode cX4_readPrefix 85 = .ok (.bipush 21, 2) := by decide +kernel
theorem dX4_readPrefix_87 : decode cX4_readPrefix 87 = .ok (.iload_n 1, 1) := by decide +kernel
theorem dX4_readPrefix_88 : decode cX4_readPrefix 88 = .ok (.invokevirtual 286, 3) := by decide +kernel
theorem dX4_readPrefix_91 : decode cX4_readPrefix 91 = .ok (.goto 54, 3) := by decide +kernel
