theorem dX12_stepIf_22 : decode cX12_stepIf 22 = .ok (.goto 31, 3) := by decide +kernel
theorem dX12_stepIf_25 : decode cX12_stepIf 25 = .ok (.aload_n 0, 1) := by decide +kernel
theorem dX12_stepIf_26 : decode cX12_stepIf 26 = .ok (.getfield 762, 3) := by decide +kernel
theorem dX12_stepIf_29 : decode cX12_stepIf 29 = .ok (.ifCond .ne 24, 3) := by decide +kernel
theorem dX12_stepIf_32 : decode cX12_stepIf 32 = .ok (.aload_n 0, 1) := by decide +kernel
theorem dX12_stepIf_33 : decode cX12_stepIf 33 = .ok (.getfield 211, 3) := by decide +kernel
theorem dX12_stepIf_36 : decode cX12_stepIf 36 = .ok (.iload_n 1, 1) := by decide +kernel
theorem dX12_stepIf_37 : decode cX12_stepIf 37 = .ok (.aload_n 0, 1) := by decide +kernel
theorem dX12_stepIf_38 : decode cX12_stepIf 38 = .ok (.getfield 153, 3) := by decide +kernel
theorem dX12_stepIf_41 : decode cX12_stepIf 41 = .ok (.iconst 2, 1) := by decide +kernel
theorem dX12_stepIf_42 : decode cX12_stepIf 42 = .ok (.aload_n 0, 1) := by decide +kernel
theorem dX12_stepIf_43 : decode cX12_stepIf 43 = .ok (.getfield 208, 3) := by decide +kernel
theorem dX12_stepIf_46 : decode cX12_stepIf 46 = .ok (.iload_n 1, 1) := by decide +kernel
theorem dX12_stepIf_47 : decode cX12_stepIf 47 = .ok (.iaload, 1) := by decide +kernel
theorem dX12_stepIf_48 : decode cX12_stepIf 48 = .ok (.imul, 1) := by decide +kernel
theorem dX12_stepIf_49 : decode cX12_stepIf 49 = .ok (.iaload, 1) := by decide +kernel
theorem dX12_stepIf_50 : decode cX12_stepIf 50 = .ok (.iload_n 2, 1) := by decide +kernel
theorem dX12_stepIf_51 : decode cX12_stepIf 51 = .ok (.iadd, 1) := by decide +kernel
theorem dX12_stepIf_52 : decode cX12_stepIf 52 = .ok (.iastore, 1) := by decide +kernel
theorem dX12_stepIf_53 : decode cX12_stepIf 53 = .ok (.return_, 1) := by decide +kernel
theorem dX12_stepTry_0 : decode cX12_stepTry 0 = .ok (.aload_n 0, 1) := by decide +kernel
theorem dX12_stepTry_1 : decode cX12_stepTry 1 = .ok (.getfield 211, 3) := by decide +kernel
theorem dX12_stepTry_4 : decode cX12_stepTry 4 = .ok (.iload_n 1, 1) := by decide +kernel
theorem dX12_stepTry_5 : decode cX12_stepTry 5 = .ok (.dup2, 1) := by decide +kernel
theorem dX12_stepTry_6 : decode cX12_stepTry 6 = .ok (.iaload, 1) := by decide +kernel
theorem dX12_stepTry_7 : decode cX12_stepTry 7 = .ok (.iconst 3, 1) := by decide +kernel
theorem dX12_stepTry_8 : decode cX12_stepTry 8 = .ok (.iadd, 1) := by decide +kernel
theorem dX12_stepTry_9 : decode cX12_stepTry 9 = .ok (.iastore, 1) := by decide +kernel
theorem dX12_stepTry_10 : decode cX12_stepTry 10 = .ok (.sipush 1500, 3) := by decide +kernel
theorem dX12_stepTry_13 : decode cX12_stepTry 13 = .ok (.aload_n 0, 1) := by decide +kernel
theorem dX12_stepTry_14 : decode cX12_stepTry 14 = .ok (.getfield 759, 3) := by decide +kernel
theorem dX12_stepTry_17 : decode cX12_stepTry 17 = .ok (.imul, 1) := by decide +kernel
theorem dX12_stepTry_18 : decode cX12_stepTry 18 = .ok (.aload_n 0, 1) := by decide +kernel
theorem dX12_stepTry_19 : decode cX12_stepTry 19 = .ok (.getfield 243, 3) := by decide +kernel
theorem dX12_stepTry_22 : decode cX12_stepTry 22 = .ok (.aload_n 0, 1) := by decide +kernel
theorem dX12_stepTry_23 : decode cX12_stepTry 23 = .ok (.getfield 759, 3) := by decide +kernel
theorem dX12_stepTry_26 : decode cX12_stepTry 26 = .ok (.iaload, 1) := by decide +kernel
theorem dX12_stepTry_27 : decode cX12_stepTry 27 = .ok (.iadd, 1) := by decide +kernel
theorem dX12_stepTry_28 : decode cX12_stepTry 28 = .ok (.istore_n 3, 1) := by decide +kernel
theorem dX12_stepTry_29 : decode cX12_stepTry 29 = .ok (.aload_n 0, 1) := by decide +kernel
theorem dX12_stepTry_30 : decode cX12_stepTry 30 = .ok (.getfield 246, 3) := by decide +kernel
theorem dX12_stepTry_33 : decode cX12_stepTry 33 = .ok (.iload_n 3, 1) := by decide +kernel
theorem dX12_stepTry_34 : decode cX12_stepTry 34 = .ok (.aload_n 0, 1) := by decide +kernel
theorem dX12_stepTry_35 : decode cX12_stepTry 35 = .ok (.getfield 205, 3) := by decide +kernel
theorem dX12_stepTry_38 : decode cX12_stepTry 38 = .ok (.aload_n 0, 1) := by decide +kernel
theorem dX12_stepTry_39 : decode cX12_stepTry 39 = .ok (.getfield 759, 3) := by decide +kernel
theorem dX12_stepTry_42 : decode cX12_stepTry 42 = .ok (.iaload, 1) := by decide +kernel
theorem dX12_stepTry_43 : decode cX12_stepTry 43 = .ok (.iastore, 1) := by decide +kernel
theorem dX12_stepTry_44 : decode cX12_stepTry 44 = .ok (.aload_n 0, 1) := by decide +kernel
theorem dX12_stepTry_45 : decode cX12_stepTry 45 = .ok (.getfield 249, 3) := by decide +kernel
theorem dX12_stepTry_48 : decode cX12_stepTry 48 = .ok (.iload_n 3, 1) := by decide +kernel
theorem dX12_stepTry_49 : decode cX12_stepTry 49 = .ok (.aload_n 0, 1) := by decide +kernel
theorem dX12_stepTry_50 : decode cX12_stepTry 50 = .ok (.getfield 233, 3) := by decide +kernel
theorem dX12_stepTry_53 : decode cX12_stepTry 53 = .ok (.aload_n 0, 1) := by decide +kernel
theorem dX12_stepTry_54 : decode cX12_stepTry 54 = .ok (.getfield 759, 3) := by decide +kernel
theorem dX12_stepTry_57 : decode cX12_stepTry 57 = .ok (.iaload, 1) := by decide +kernel
theorem dX12_stepTry_58 : decode cX12_stepTry 58 = .ok (.iastore, 1) := by decide +kernel
theorem dX12_stepTry_59 : decode cX12_stepTry 59 = .ok (.aload_n 0, 1) := by decide +kernel
theorem dX12_stepTry_60 : decode cX12_stepTry 60 = .ok (.getfield 252, 3) := by decide +kernel
theorem dX12_stepTry_63 : decode cX12_stepTry 63 = .ok (.iload_n 3, 1) := by decide +kernel
theorem dX12_stepTry_64 : decode cX12_stepTry 64 = .ok (.aload_n 0, 1) := by decide +kernel
theorem dX12_stepTry_65 : decode cX12_stepTry 65 = .ok (.getfield 153, 3) := by decide +kernel
theorem dX12_stepTry_68 : decode cX12_stepTry 68 = .ok (.iconst 2, 1) := by decide +kernel
theorem dX12_stepTry_69 : decode cX12_stepTry 69 = .ok (.aload_n 0, 1) := by decide +kernel
theorem dX12_stepTry_70 : decode cX12_stepTry 70 = .ok (.getfield 208, 3) := by decide +kernel
theorem dX12_stepTry_73 : decode cX12_stepTry 73 = .ok (.iload_n 1, 1) := by decide +kernel
theorem dX12_stepTry_74 : decode cX12_stepTry 74 = .ok (.iaload, 1) := by decide +kernel
theorem dX12_stepTry_75 : decode cX12_stepTry 75 = .ok (.imul, 1) := by decide +kernel
theorem dX12_stepTry_76 : decode cX12_stepTry 76 = .ok (.iaload, 1) := by decide +kernel
theorem dX12_stepTry_77 : decode cX12_stepTry 77 = .ok (.iload_n 2, 1) := by decide +kernel
theorem dX12_stepTry_78 : decode cX12_stepTry 78 = .ok (.iadd, 1) := by decide +kernel
theorem dX12_stepTry_79 : decode cX12_stepTry 79 = .ok (.iastore, 1) := by decide +kernel
theorem dX12_stepTry_80 : decode cX12_stepTry 80 = .ok (.aload_n 0, 1) := by decide +kernel
theorem dX12_stepTry_81 : decode cX12_stepTry 81 = .ok (.getfield 243, 3) := by decide +kernel
theorem dX12_stepTry_84 : decode cX12_stepTry 84 = .ok (.aload_n 0, 1) := by decide +kernel
theorem dX12_stepTry_85 : decode cX12_stepTry 85 = .ok (.getfield 759, 3) := by decide +kernel
theorem dX12_stepTry_88 : decode cX12_stepTry 88 = .ok (.dup2, 1) := by decide +kernel
theorem dX12_stepTry_89 : decode cX12_stepTry 89 = .ok (.iaload, 1) := by decide +kernel
theorem dX12_stepTry_90 : decode cX12_stepTry 90 = .ok (.iconst 1, 1) := by decide +kernel
theorem dX12_stepTry_91 : decode cX12_stepTry 91 = .ok (.iadd, 1) := by decide +kernel
theorem dX12_stepTry_92 : decode cX12_stepTry 92 = .ok (.iastore, 1) := by decide +kernel
theorem dX12_stepTry_93 : decode cX12_stepTry 93 = .ok (.return_, 1) := by decide +kernel
theorem dX12_stepBack_0 : decode cX12_stepBack 0 = .ok (.aload_n 0, 1) := by decide +kernel
theorem dX12_stepBack_1 : decode cX12_stepBack 1 = .ok (.getfield 205, 3) := by decide +kernel
theorem dX12_stepBack_4 : decode cX12_stepBack 4 = .ok (.aload_n 0, 1) := by decide +kernel
theorem dX12_stepBack_5 : decode cX12_stepBack 5 = .ok (.getfield 759, 3) := by decide +kernel
theorem dX12_stepBack_8 : decode cX12_stepBack 8 = .ok (.dup2, 1) := by decide +kernel
theorem dX12_stepBack_9 : decode cX12_stepBack 9 = .ok (.iaload, 1) := by decide +kernel
theorem dX12_stepBack_10 : decode cX12_stepBack 10 = .ok (.iconst 1, 1) := by decide +kernel
theorem dX12_stepBack_11 : decode cX12_stepBack 11 = .ok (.isub, 1) := by decide +kernel
theorem dX12_stepBack_12 : decode cX12_stepBack 12 = .ok (.iastore, 1) := by decide +kernel
theorem dX12_stepBack_13 : decode cX12_stepBack 13 = .ok (.aload_n 0, 1) := by decide +kernel
theorem dX12_stepBack_14 : decode cX12_stepBack 14 = .ok (.getfield 223, 3) := by decide +kernel
theorem dX12_stepBack_17 : decode cX12_stepBack 17 = .ok (.aload_n 0, 1) := by decide +kernel
theorem dX12_stepBack_18 : decode cX12_stepBack 18 = .ok (.getfield 759, 3) := by decide +kernel
theorem dX12_stepBack_21 : decode cX12_stepBack 21 = .ok (.aload_n 0, 1) := by decide +kernel
theorem dX12_stepBack_22 : decode cX12_stepBack 22 = .ok (.getfield 214, 3) := by decide +kernel
theorem dX12_stepBack_25 : decode cX12_stepBack 25 = .ok (.iload_n 1, 1) := by decide +kernel
theorem dX12_stepBack_26 : decode cX12_stepBack 26 = .ok (.iaload, 1) := by decide +kernel
theorem dX12_stepBack_27 : decode cX12_stepBack 27 = .ok (.iastore, 1) := by decide +kernel
theorem dX12_stepBack_28 : decode cX12_stepBack 28 = .ok (.aload_n 0, 1) := by decide +kernel
theorem dX12_stepBack_29 : decode cX12_stepBack 29 = .ok (.getfield 205, 3) := by decide +kernel
theorem dX12_stepBack_32 : decode cX12_stepBack 32 = .ok (.aload_n 0, 1) := by decide +kernel
theorem dX12_stepBack_33 : decode cX12_stepBack 33 = .ok (.getfield 759, 3) := by decide +kernel
theorem dX12_stepBack_36 : decode cX12_stepBack 36 = .ok (.iaload, 1) := by decide +kernel
theorem dX12_stepBack_37 : decode cX12_stepBack 37 = .ok (.ifCond .le 4, 3) := by decide +kernel
theorem dX12_stepBack_40 : decode cX12_stepBack 40 = .ok (.return_, 1) := by decide +kernel
theorem dX12_stepBack_41 : decode cX12_stepBack 41 = .ok (.aload_n 0, 1) := by decide +kernel
theorem dX12_stepBack_42 : decode cX12_stepBack 42 = .ok (.getfield 199, 3) := by decide +kernel
theorem dX12_stepBack_45 : decode cX12_stepBack 45 = .ok (.aload_n 0, 1) := by decide +kernel
theorem dX12_stepBack_46 : decode cX12_stepBack 46 = .ok (.getfield 759, 3) := by decide +kernel
theorem dX12_stepBack_49 : decode cX12_stepBack 49 = .ok (.aload_n 0, 1) := by decide +kernel
theorem dX12_stepBack_50 : decode cX12_stepBack 50 = .ok (.invokevirtual 857, 3) := by decide +kernel
theorem dX12_stepBack_53 : decode cX12_stepBack 53 = .ok (.iastore, 1) := by decide +kernel
theorem dX12_stepBack_54 : decode cX12_stepBack 54 = .ok (.aload_n 0, 1) := by decide +kernel
theorem dX12_stepBack_55 : decode cX12_stepBack 55 = .ok (.getfield 202, 3) := by decide +kernel
theorem dX12_stepBack_58 : decode cX12_stepBack 58 = .ok (.aload_n 0, 1) := by decide +kernel
theorem dX12_stepBack_59 : decode cX12_stepBack 59 = .ok (.getfield 759, 3) := by decide +kernel
theorem dX12_stepBack_62 : decode cX12_stepBack 62 = .ok (.aload_n 0, 1) := by decide +kernel
theorem dX12_stepBack_63 : decode cX12_stepBack 63 = .ok (.getfield 762, 3) := by decide +kernel
theorem dX12_stepBack_66 : decode cX12_stepBack 66 = .ok (.iastore, 1) := by decide +kernel
theorem dX12_stepBack_67 : decode cX12_stepBack 67 = .ok (.aload_n 0, 1) := by decide +kernel
theorem dX12_stepBack_68 : decode cX12_stepBack 68 = .ok (.getfield 190, 3) := by decide +kernel
theorem dX12_stepBack_71 : decode cX12_stepBack 71 = .ok (.aload_n 0, 1) := by decide +kernel
theorem dX12_stepBack_72 : decode cX12_stepBack 72 = .ok (.getfield 759, 3) := by decide +kernel
theorem dX12_stepBack_75 : decode cX12_stepBack 75 = .ok (.iconst 1, 1) := by decide +kernel
theorem dX12_stepBack_76 : decode cX12_stepBack 76 = .ok (.iastore, 1) := by decide +kernel
theorem dX12_stepBack_77 : decode cX12_stepBack 77 = .ok (.aload_n 0, 1) := by decide +kernel
theorem dX12_stepBack_78 : decode cX12_stepBack 78 = .ok (.iconst 0, 1) := by decide +kernel
theorem dX12_stepBack_79 : decode cX12_stepBack 79 = .ok (.putfield 772, 3) := by decide +kernel
theorem dX12_stepBack_82 : decode cX12_stepBack 82 = .ok (.return_, 1) := by decide +kernel
theorem dX12_stepOther_0 : decode cX12_stepOther 0 = .ok (.iload_n 2, 1) := by decide +kernel
theorem dX12_stepOther_1 : decode cX12_stepOther 1 = .ok (.i2l, 1) := by decide +kernel
theorem dX12_stepOther_2 : decode cX12_stepOther 2 = .ok (.ldc2_w 667, 3) := by decide +kernel
theorem dX12_stepOther_5 : decode cX12_stepOther 5 = .ok (.ldc2_w 669, 3) := by decide +kernel
theorem dX12_stepOther_8 : decode cX12_stepOther 8 = .ok (.invokestatic 274, 3) := by decide +kernel
theorem dX12_stepOther_11 : decode cX12_stepOther 11 = .ok (.ifCond .eq 19, 3) := by decide +kernel
theorem dX12_stepOther_14 : decode cX12_stepOther 14 = .ok (.aload_n 0, 1) := by decide +kernel
theorem dX12_stepOther_15 : decode cX12_stepOther 15 = .ok (.getfield 211, 3) := by decide +kernel
theorem dX12_stepOther_18 : decode cX12_stepOther 18 = .ok (.iload_n 1, 1) := by decide +kernel
theorem dX12_stepOther_19 : decode cX12_stepOther 19 = .ok (.dup2, 1) := by decide +kernel
theorem dX12_stepOther_20 : decode cX12_stepOther 20 = .ok (.iaload, 1) := by decide +kernel
theorem dX12_stepOther_21 : decode cX12_stepOther 21 = .ok (.iconst 1, 1) := by decide +kernel
theorem dX12_stepOther_22 : decode cX12_stepOther 22 = .ok (.iadd, 1) := by decide +kernel
theorem dX12_stepOther_23 : decode cX12_stepOther 23 = .ok (.iastore, 1) := by decide +kernel
theorem dX12_stepOther_24 : decode cX12_stepOther 24 = .ok (.aload_n 0, 1) := by decide +kernel
theorem dX12_stepOther_25 : decode cX12_stepOther 25 = .ok (.iload_n 2, 1) := by decide +kernel
theorem dX12_stepOther_26 : decode cX12_stepOther 26 = .ok (.invokevirtual 872, 3) := by decide +kernel
theorem dX12_stepOther_29 : decode cX12_stepOther 29 = .ok (.return_, 1) := by decide +kernel
theorem dX12_stepOther_30 : decode cX12_stepOther 30 = .ok (.iload_n 2, 1) := by decide +kernel
theorem dX12_stepOther_31 : decode cX12_stepOther 31 = .ok (.tableswitch 319 4 27 #[109, 151, 151, 175, 206, 224, 242, 319, 319, 319, 319, 319, 319, 319, 319, 319, 319, 319, 319, 319, 319, 260, 260, 279], 109) := by decide +kernel
theorem dX12_stepOther_140 : decode cX12_stepOther 140 = .ok (.aload_n 0, 1) := by decide +kernel
theorem dX12_stepOther_141 : decode cX12_stepOther 141 = .ok (.getfield 211, 3) := by decide +kernel
theorem dX12_stepOther_144 : decode cX12_stepOther 144 = .ok (.iload_n 1, 1) := by decide +kernel
theorem dX12_stepOther_145 : decode cX12_stepOther 145 = .ok (.dup2, 1) := by decide +kernel
theorem dX12_stepOther_146 : decode cX12_stepOther 146 = .ok (.iaload, 1) := by decide +kernel
theorem dX12_stepOther_147 : decode cX12_stepOther 147 = .ok (.iconst 3, 1) := by decide +kernel
theorem dX12_stepOther_148 : decode cX12_stepOther 148 = .ok (.iadd, 1) := by decide +kernel
theorem dX12_stepOther_149 : decode cX12_stepOther 149 = .ok (.iastore, 1) := by decide +kernel
theorem dX12_stepOther_150 : decode cX12_stepOther 150 = .ok (.aload_n 0, 1) := by decide +kernel
theorem dX12_stepOther_151 : decode cX12_stepOther 151 = .ok (.getfield 809, 3) := by decide +kernel
theorem dX12_stepOther_154 : decode cX12_stepOther 154 = .ok (.sipush 2000, 3) := by decide +kernel
theorem dX12_stepOther_157 : decode cX12_stepOther 157 = .ok (.if_icmp .ne 12, 3) := by decide +kernel
theorem dX12_stepOther_160 : decode cX12_stepOther 160 = .ok (.aload_n 0, 1) := by decide +kernel
theorem dX12_stepOther_161 : decode cX12_stepOther 161 = .ok (.bipush 9, 2) := by decide +kernel
theorem dX12_stepOther_163 : decode cX12_stepOther 163 = .ok (.invokevirtual 790, 3) := by decide +kernel
theorem dX12_stepOther_166 : decode cX12_stepOther 166 = .ok (.goto 199, 3) := by decide +kernel
theorem dX12_stepOther_169 : decode cX12_stepOther 169 = .ok (.aload_n 0, 1) := by decide +kernel
theorem dX12_stepOther_170 : decode cX12_stepOther 170 = .ok (.iconst 2, 1) := by decide +kernel
theorem dX12_stepOther_171 : decode cX12_stepOther 171 = .ok (.aload_n 0, 1) := by decide +kernel
theorem dX12_stepOther_172 : decode cX12_stepOther 172 = .ok (.iload_n 3, 1) := by decide +kernel
theorem dX12_stepOther_173 : decode cX12_stepOther 173 = .ok (.invokevirtual 830, 3) := by decide +kernel
theorem dX12_stepOther_176 : decode cX12_stepOther 176 = .ok (.invokevirtual 778, 3) := by decide +kernel
theorem dX12_stepOther_179 : decode cX12_stepOther 179 = .ok (.goto 186, 3) := by decide +kernel
theorem dX12_stepOther_182 : decode cX12_stepOther 182 = .ok (.aload_n 0, 1) := by decide +kernel
theorem dX12_stepOther_183 : decode cX12_stepOther 183 = .ok (.getfield 211, 3) := by decide +kernel
theorem dX12_stepOther_186 : decode cX12_stepOther 186 = .ok (.iload_n 1, 1) := by decide +kernel
theorem dX12_stepOther_187 : decode cX12_stepOther 187 = .ok (.dup2, 1) := by decide +kernel
theorem dX12_stepOther_188 : decode cX12_stepOther 188 = .ok (.iaload, 1) := by decide +kernel
theorem dX12_stepOther_189 : decode cX12_stepOther 189 = .ok (.iconst 3, 1) := by decide +kernel
theorem dX12_stepOther_190 : decode cX12_stepOther 190 = .ok (.iadd, 1) := by decide +kernel
theorem dX12_stepOther_191 : decode cX12_stepOther 191 = .ok (.iastore, 1) := by decide +kernel
theorem dX12_stepOther_192 : decode cX12_stepOther 192 = .ok (.aload_n 0, 1) := by decide +kernel
theorem dX12_stepOther_193 : decode cX12_stepOther 193 = .ok (.iload_n 2, 1) := by decide +kernel
theorem dX12_stepOther_194 : decode cX12_stepOther 194 = .ok (.aload_n 0, 1) := by decide +kernel
theorem dX12_stepOther_195 : decode cX12_stepOther 195 = .ok (.getfield 124, 3) := by decide +kernel
theorem dX12_stepOther_198 : decode cX12_stepOther 198 = .ok (.iload_n 3, 1) := by decide +kernel
theorem dX12_stepOther_199 : decode cX12_stepOther 199 = .ok (.laload, 1) := by decide +kernel
theorem dX12_stepOther_200 : decode cX12_stepOther 200 = .ok (.invokevirtual 875, 3) := by decide +kernel
theorem dX12_stepOther_203 : decode cX12_stepOther 203 = .ok (.goto 162, 3) := by decide +kernel
theorem dX12_stepOther_206 : decode cX12_stepOther 206 = .ok (.aload_n 0, 1) := by decide +kernel
theorem dX12_stepOther_207 : decode cX12_stepOther 207 = .ok (.getfield 211, 3) := by decide +kernel
theorem dX12_stepOther_210 : decode cX12_stepOther 210 = .ok (.iload_n 1, 1) := by decide +kernel
theorem dX12_stepOther_211 : decode cX12_stepOther 211 = .ok (.dup2, 1) := by decide +kernel
theorem dX12_stepOther_212 : decode cX12_stepOther 212 = .ok (.iaload, 1) := by decide +kernel
theorem dX12_stepOther_213 : decode cX12_stepOther 213 = .ok (.iconst 5, 1) := by decide +kernel
theorem dX12_stepOther_214 : decode cX12_stepOther 214 = .ok (.iadd, 1) := by decide +kernel
theorem dX12_stepOther_215 : decode cX12_stepOther 215 = .ok (.iastore, 1) := by decide +kernel
theorem dX12_stepOther_216 : decode cX12_stepOther 216 = .ok (.aload_n 0, 1) := by decide +kernel
theorem dX12_stepOther_217 : decode cX12_stepOther 217 = .ok (.aload_n 0, 1) := by decide +kernel
theorem dX12_stepOther_218 : decode cX12_stepOther 218 = .ok (.getfield 124, 3) := by decide +kernel
theorem dX12_stepOther_221 : decode cX12_stepOther 221 = .ok (.iload_n 3, 1) := by decide +kernel
theorem dX12_stepOther_222 : decode cX12_stepOther 222 = .ok (.laload, 1) := by decide +kernel
theorem dX12_stepOther_223 : decode cX12_stepOther 223 = .ok (.aload_n 0, 1) := by decide +kernel
theorem dX12_stepOther_224 : decode cX12_stepOther 224 = .ok (.iload 4, 2) := by decide +kernel
theorem dX12_stepOther_226 : decode cX12_stepOther 226 = .ok (.iconst 3, 1) := by decide +kernel
theorem dX12_stepOther_227 : decode cX12_stepOther 227 = .ok (.iadd, 1) := by decide +kernel
theorem dX12_stepOther_228 : decode cX12_stepOther 228 = .ok (.invokevirtual 854, 3) := by decide +kernel
theorem dX12_stepOther_231 : decode cX12_stepOther 231 = .ok (.invokevirtual 879, 3) := by decide +kernel
theorem dX12_stepOther_234 : decode cX12_stepOther 234 = .ok (.goto 131, 3) := by decide +kernel
theorem dX12_stepOther_237 : decode cX12_stepOther 237 = .ok (.aload_n 0, 1) := by decide +kernel
theorem dX12_stepOther_238 : decode cX12_stepOther 238 = .ok (.getfield 211, 3) := by decide +kernel
theorem dX12_stepOther_241 : decode cX12_stepOther 241 = .ok (.iload_n 1, 1) := by decide +kernel
theorem dX12_stepOther_242 : decode cX12_stepOther 242 = .ok (.dup2, 1) := by decide +kernel
theorem dX12_stepOther_243 : decode cX12_stepOther 243 = .ok (.iaload, 1) := by decide +kernel
theorem dX12_stepOther_244 : decode cX12_stepOther 244 = .ok (.iconst 3, 1) := by decide +kernel
theorem dX12_stepOther_245 : decode cX12_stepOther 245 = .ok (.iadd, 1) := by decide +kernel
theorem dX12_stepOther_246 : decode cX12_stepOther 246 = .ok (.iastore, 1) := by decide +kernel
theorem dX12_stepOther_247 : decode cX12_stepOther 247 = .ok (.aload_n 0, 1) := by decide +kernel
theorem dX12_stepOther_248 : decode cX12_stepOther 248 = .ok (.iload_n 3, 1) := by decide +kernel
theorem dX12_stepOther_249 : decode cX12_stepOther 249 = .ok (.invokevirtual 883, 3) := by decide +kernel
theorem dX12_stepOther_252 : decode cX12_stepOther 252 = .ok (.goto 113, 3) := by decide +kernel
theorem dX12_stepOther_255 : decode cX12_stepOther 255 = .ok (.aload_n 0, 1) := by decide +kernel
theorem dX12_stepOther_256 : decode cX12_stepOther 256 = .ok (.getfield 211, 3) := by decide +kernel
theorem dX12_stepOther_259 : decode cX12_stepOther 259 = .ok (.iload_n 1, 1) := by decide +kernel
theorem dX12_stepOther_260 : decode cX12_stepOther 260 = .ok (.dup2, 1) := by decide +kernel
theorem dX12_stepOther_261 : decode cX12_stepOther 261 = .ok (.iaload, 1) := by decide +kernel
theorem dX12_stepOther_262 : decode cX12_stepOther 262 = .ok (.iconst 3, 1) := by decide +kernel
theorem dX12_stepOther_263 : decode cX12_stepOther 263 = .ok (.iadd, 1) := by decide +kernel
theorem dX12_stepOther_264 : decode cX12_stepOther 264 = .ok (.iastore, 1) := by decide +kernel
theorem dX12_stepOther_265 : decode cX12_stepOther 265 = .ok (.aload_n 0, 1) := by decide +kernel
theorem dX12_stepOther_266 : decode cX12_stepOther 266 = .ok (.iload_n 3, 1) := by decide +kernel
theorem dX12_stepOther_267 : decode cX12_stepOther 267 = .ok (.invokevirtual 886, 3) := by decide +kernel
theorem dX12_stepOther_270 : decode cX12_stepOther 270 = .ok (.goto 95, 3) := by decide +kernel
theorem dX12_stepOther_273 : decode cX12_stepOther 273 = .ok (.aload_n 0, 1) := by decide +kernel
theorem dX12_stepOther_274 : decode cX12_stepOther 274 = .ok (.getfield 211, 3) := by decide +kernel
theorem dX12_stepOther_277 : decode cX12_stepOther 277 = .ok (.iload_n 1, 1) := by decide +kernel
theorem dX12_stepOther_278 : decode cX12_stepOther 278 = .ok (.dup2, 1) := by decide +kernel
theorem dX12_stepOther_279 : decode cX12_stepOther 279 = .ok (.iaload, 1) := by decide +kernel
theorem dX12_stepOther_280 : decode cX12_stepOther 280 = .ok (.iconst 3, 1) := by decide +kernel
theorem dX12_stepOther_281 : decode cX12_stepOther 281 = .ok (.iadd, 1) := by decide +kernel
theorem dX12_stepOther_282 : decode cX12_stepOther 282 = .ok (.iastore, 1) := by decide +kernel
theorem dX12_stepOther_283 : decode cX12_stepOther 283 = .ok (.aload_n 0, 1) := by decide +kernel
theorem dX12_stepOther_284 : decode cX12_stepOther 284 = .ok (.iload_n 3, 1) := by decide +kernel
theorem dX12_stepOther_285 : decode cX12_stepOther 285 = .ok (.invokevirtual 889, 3) := by decide +kernel
theorem dX12_stepOther_288 : decode cX12_stepOther 288 = .ok (.goto 77, 3) := by decide +kernel
theorem dX12_stepOther_291 : decode cX12_stepOther 291 = .ok (.aload_n 0, 1) := by decide +kernel
theorem dX12_stepOther_292 : decode cX12_stepOther 292 = .ok (.getfield 211, 3) := by decide +kernel
theorem dX12_stepOther_295 : decode cX12_stepOther 295 = .ok (.iload_n 1, 1) := by decide +kernel
theorem dX12_stepOther_296 : decode cX12_stepOther 296 = .ok (.dup2, 1) := by decide +kernel
theorem dX12_stepOther_297 : decode cX12_stepOther 297 = .ok (.iaload, 1) := by decide +kernel
theorem dX12_stepOther_298 : decode cX12_stepOther 298 = .ok (.iconst 3, 1) := by decide +kernel
theorem dX12_stepOther_299 : decode cX12_stepOther 299 = .ok (.iadd, 1) := by decide +kernel
theorem dX12_stepOther_300 : decode cX12_stepOther 300 = .ok (.iastore, 1) := by decide +kernel
theorem dX12_stepOther_301 : decode cX12_stepOther 301 = .ok (.aload_n 0, 1) := by decide +kernel
theorem dX12_stepOther_302 : decode cX12_stepOther 302 = .ok (.iload_n 2, 1) := by decide +kernel
theorem dX12_stepOther_303 : decode cX12_stepOther 303 = .ok (.iload_n 3, 1) := by decide +kernel
theorem dX12_stepOther_304 : decode cX12_stepOther 304 = .ok (.invokevirtual 892, 3) := by decide +kernel
theorem dX12_stepOther_307 : decode cX12_stepOther 307 = .ok (.goto 58, 3) := by decide +kernel
theorem dX12_stepOther_310 : decode cX12_stepOther 310 = .ok (.aload_n 0, 1) := by decide +kernel
theorem dX12_stepOther_311 : decode cX12_stepOther 311 = .ok (.getfield 211, 3) := by decide +kernel
theorem dX12_stepOther_314 : decode cX12_stepOther 314 = .ok (.iload_n 1, 1) := by decide +kernel
theorem dX12_stepOther_315 : decode cX12_stepOther 315 = .ok (.dup2, 1) := by decide +kernel
theorem dX12_stepOther_316 : decode cX12_stepOther 316 = .ok (.iaload, 1) := by decide +kernel
theorem dX12_stepOther_317 : decode cX12_stepOther 317 = .ok (.iconst 1, 1) := by decide +kernel
theorem dX12_stepOther_318 : decode cX12_stepOther 318 = .ok (.iadd, 1) := by decide +kernel
theorem dX12_stepOther_319 : decode cX12_stepOther 319 = .ok (.iastore, 1) := by decide +kernel
theorem dX12_stepOther_320 : decode cX12_stepOther 320 = .ok (.aload_n 0, 1) := by decide +kernel
theorem dX12_stepOther_321 : decode cX12_stepOther 321 = .ok (.iconst 4, 1) := by decide +kernel
theorem dX12_stepOther_322 : decode cX12_stepOther 322 = .ok (.aload_n 0, 1) := by decide +kernel
theorem dX12_stepOther_323 : decode cX12_stepOther 323 = .ok (.getfield 796, 3) := by decide +kernel
theorem dX12_stepOther_326 : decode cX12_stepOther 326 = .ok (.ifCond .eq 12, 3) := by decide +kernel
theorem dX12_stepOther_329 : decode cX12_stepOther 329 = .ok (.aload_n 0, 1) := by decide +kernel
theorem dX12_stepOther_330 : decode cX12_stepOther 330 = .ok (.getfield 220, 3) := by decide +kernel
theorem dX12_stepOther_333 : decode cX12_stepOther 333 = .ok (.iload_n 1, 1) := by decide +kernel
theorem dX12_stepOther_334 : decode cX12_stepOther 334 = .ok (.iaload, 1) := by decide +kernel
theorem dX12_stepOther_335 : decode cX12_stepOther 335 = .ok (.goto 9, 3) := by decide +kernel
theorem dX12_stepOther_338 : decode cX12_stepOther 338 = .ok (.aload_n 0, 1) := by decide +kernel
theorem dX12_stepOther_339 : decode cX12_stepOther 339 = .ok (.getfield 217, 3) := by decide +kernel
theorem dX12_stepOther_342 : decode cX12_stepOther 342 = .ok (.iload_n 1, 1) := by decide +kernel
theorem dX12_stepOther_343 : decode cX12_stepOther 343 = .ok (.iaload, 1) := by decide +kernel
theorem dX12_stepOther_344 : decode cX12_stepOther 344 = .ok (.invokevirtual 778, 3) := by decide +kernel
theorem dX12_stepOther_347 : decode cX12_stepOther 347 = .ok (.goto 18, 3) := by decide +kernel
theorem dX12_stepOther_350 : decode cX12_stepOther 350 = .ok (.aload_n 0, 1) := by decide +kernel
theorem dX12_stepOther_351 : decode cX12_stepOther 351 = .ok (.getfield 211, 3) := by decide +kernel
theorem dX12_stepOther_354 : decode cX12_stepOther 354 = .ok (.iload_n 1, 1) := by decide +kernel
theorem dX12_stepOther_355 : decode cX12_stepOther 355 = .ok (.dup2, 1) := by decide +kernel
theorem dX12_stepOther_356 : decode cX12_stepOther 356 = .ok (.iaload, 1) := by decide +kernel
theorem dX12_stepOther_357 : decode cX12_stepOther 357 = .ok (.iconst 1, 1) := by decide +kernel
theorem dX12_stepOther_358 : decode cX12_stepOther 358 = .ok (.iadd, 1) := by decide +kernel
theorem dX12_stepOther_359 : decode cX12_stepOther 359 = .ok (.iastore, 1) := by decide +kernel
theorem dX12_stepOther_360 : decode cX12_stepOther 360 = .ok (.aload_n 0, 1) := by decide +kernel
theorem dX12_stepOther_361 : decode cX12_stepOther 361 = .ok (.iload_n 2, 1) := by decide +kernel
theorem dX12_stepOther_362 : decode cX12_stepOther 362 = .ok (.invokevirtual 895, 3) := by decide +kernel
theorem dX12_stepOther_365 : decode cX12_stepOther 365 = .ok (.return_, 1) := by decide +kernel
theorem dX12_reckons_0 : decode cX12_reckons 0 = .ok (.aload_n 0, 1) := by decide +kernel
theorem dX12_reckons_1 : decode cX12_reckons 1 = .ok (.invokevirtual 857, 3) := by decide +kernel
theorem dX12_reckons_4 : decode cX12_reckons 4 = .ok (.istore_n 2, 1) := by decide +kernel
theorem dX12_reckons_5 : decode cX12_reckons 5 = .ok (.aload_n 0, 1) := by decide +kernel
theorem dX12_reckons_6 : decode cX12_reckons 6 = .ok (.getfield 762, 3) := by decide +kernel
theorem dX12_reckons_9 : decode cX12_reckons 9 = .ok (.istore_n 3, 1) := by decide +kernel
theorem dX12_reckons_10 : decode cX12_reckons 10 = .ok (.aload_n 0, 1) := by decide +kernel
theorem dX12_reckons_11 : decode cX12_reckons 11 = .ok (.invokevirtual 857, 3) := by decide +kernel
theorem dX12_reckons_14 : decode cX12_reckons 14 = .ok (.istore 4, 2) := by decide +kernel
theorem dX12_reckons_16 : decode cX12_reckons 16 = .ok (.aload_n 0, 1) := by decide +kernel
theorem dX12_reckons_17 : decode cX12_reckons 17 = .ok (.getfield 762, 3) := by decide +kernel
theorem dX12_reckons_20 : decode cX12_reckons 20 = .ok (.istore 5, 2) := by decide +kernel
theorem dX12_reckons_22 : decode cX12_reckons 22 = .ok (.iload_n 1, 1) := by decide +kernel
theorem dX12_reckons_23 : decode cX12_reckons 23 = .ok (.bipush 15, 2) := by decide +kernel
theorem dX12_reckons_25 : decode cX12_reckons 25 = .ok (.if_icmp .ne 50, 3) := by decide +kernel
theorem dX12_reckons_28 : decode cX12_reckons 28 = .ok (.iload_n 2, 1) := by decide +kernel
theorem dX12_reckons_29 : decode cX12_reckons 29 = .ok (.iconst 3, 1) := by decide +kernel
theorem dX12_reckons_30 : decode cX12_reckons 30 = .ok (.if_icmp .ge 9, 3) := by decide +kernel
theorem dX12_reckons_33 : decode cX12_reckons 33 = .ok (.iload 4, 2) := by decide +kernel
theorem dX12_reckons_35 : decode cX12_reckons 35 = .ok (.iconst 3, 1) := by decide +kernel
theorem dX12_reckons_36 : decode cX12_reckons 36 = .ok (.if_icmp .lt 11, 3) := by decide +kernel
theorem dX12_reckons_39 : decode cX12_reckons 39 = .ok (.aload_n 0, 1) := by decide +kernel
theorem dX12_reckons_40 : decode cX12_reckons 40 = .ok (.iconst 5, 1) := by decide +kernel
theorem dX12_reckons_41 : decode cX12_reckons 41 = .ok (.invokevirtual 790, 3) := by decide +kernel
theorem dX12_reckons_44 : decode cX12_reckons 44 = .ok (.goto 30, 3) := by decide +kernel
theorem dX12_reckons_47 : decode cX12_reckons 47 = .ok (.aload_n 0, 1) := by decide +kernel
theorem dX12_reckons_48 : decode cX12_reckons 48 = .ok (.iconst 0, 1) := by decide +kernel
theorem dX12_reckons_49 : decode cX12_reckons 49 = .ok (.iload_n 2, 1) := by decide +kernel
theorem dX12_reckons_50 : decode cX12_reckons 50 = .ok (.iload 4, 2) := by decide +kernel
theorem dX12_reckons_52 : decode cX12_reckons 52 = .ok (.if_icmp .ne 18, 3) := by decide +kernel
theorem dX12_reckons_55 : decode cX12_reckons 55 = .ok (.iload_n 2, 1) := by decide +kernel
theorem dX12_reckons_56 : decode cX12_reckons 56 = .ok (.iconst 1, 1) := by decide +kernel
theorem dX12_reckons_57 : decode cX12_reckons 57 = .ok (.if_icmp .eq 9, 3) := by decide +kernel
theorem dX12_reckons_60 : decode cX12_reckons 60 = .ok (.iload 5, 2) := by decide +kernel
theorem dX12_reckons_62 : decode cX12_reckons 62 = .ok (.iload_n 3, 1) := by decide +kernel
theorem dX12_reckons_63 : decode cX12_reckons 63 = .ok (.if_icmp .ne 7, 3) := by decide +kernel
theorem dX12_reckons_66 : decode cX12_reckons 66 = .ok (.iconst 1, 1) := by decide +kernel
theorem dX12_reckons_67 : decode cX12_reckons 67 = .ok (.goto 4, 3) := by decide +kernel
theorem dX12_reckons_70 : decode cX12_reckons 70 = .ok (.iconst 0, 1) := by decide +kernel
theorem dX12_reckons_71 : decode cX12_reckons 71 = .ok (.invokevirtual 778, 3) := by decide +kernel
theorem dX12_reckons_74 : decode cX12_reckons 74 = .ok (.return_, 1) := by decide +kernel
theorem dX12_reckons_75 : decode cX12_reckons 75 = .ok (.iload_n 2, 1) := by decide +kernel
theorem dX12_reckons_76 : decode cX12_reckons 76 = .ok (.ifCond .ne 8, 3) := by decide +kernel
theorem dX12_reckons_79 : decode cX12_reckons 79 = .ok (.iload 4, 2) := by decide +kernel
theorem dX12_reckons_81 : decode cX12_reckons 81 = .ok (.ifCond .eq 9, 3) := by decide +kernel
theorem dX12_reckons_84 : decode cX12_reckons 84 = .ok (.aload_n 0, 1) := by decide +kernel
theorem dX12_reckons_85 : decode cX12_reckons 85 = .ok (.iconst 5, 1) := by decide +kernel
theorem dX12_reckons_86 : decode cX12_reckons 86 = .ok (.invokevirtual 790, 3) := by decide +kernel
theorem dX12_reckons_89 : decode cX12_reckons 89 = .ok (.return_, 1) := by decide +kernel
theorem dX12_reckons_90 : decode cX12_reckons 90 = .ok (.aload_n 0, 1) := by decide +kernel
theorem dX12_reckons_91 : decode cX12_reckons 91 = .ok (.iconst 0, 1) := by decide +kernel
theorem dX12_reckons_92 : decode cX12_reckons 92 = .ok (.iload_n 1, 1) := by decide +kernel
theorem dX12_reckons_93 : decode cX12_reckons 93 = .ok (.bipush 11, 2) := by decide +kernel
theorem dX12_reckons_95 : decode cX12_reckons 95 = .ok (.if_icmp .ne 10, 3) := by decide +kernel
theorem dX12_reckons_98 : decode cX12_reckons 98 = .ok (.iload 5, 2) := by decide +kernel
theorem dX12_reckons_100 : decode cX12_reckons 100 = .ok (.iload_n 3, 1) := by decide +kernel
theorem dX12_reckons_101 : decode cX12_reckons 101 = .ok (.iadd, 1) := by decide +kernel
theorem dX12_reckons_102 : decode cX12_reckons 102 = .ok (.goto 40, 3) := by decide +kernel
theorem dX12_reckons_105 : decode cX12_reckons 105 = .ok (.iload_n 1, 1) := by decide +kernel
theorem dX12_reckons_106 : decode cX12_reckons 106 = .ok (.bipush 12, 2) := by decide +kernel
theorem dX12_reckons_108 : decode cX12_reckons 108 = .ok (.if_icmp .ne 10, 3) := by decide +kernel
theorem dX12_reckons_111 : decode cX12_reckons 111 = .ok (.iload 5, 2) := by decide +kernel
theorem dX12_reckons_113 : decode cX12_reckons 113 = .ok (.iload_n 3, 1) := by decide +kernel
theorem dX12_reckons_114 : decode cX12_reckons 114 = .ok (.isub, 1) := by decide +kernel
theorem dX12_reckons_115 : decode cX12_reckons 115 = .ok (.goto 27, 3) := by decide +kernel
theorem dX12_reckons_118 : decode cX12_reckons 118 = .ok (.iload_n 1, 1) := by decide +kernel
theorem dX12_reckons_119 : decode cX12_reckons 119 = .ok (.bipush 13, 2) := by decide +kernel
theorem dX12_reckons_121 : decode cX12_reckons 121 = .ok (.if_icmp .ne 10, 3) := by decide +kernel
theorem dX12_reckons_124 : decode cX12_reckons 124 = .ok (.iload 5, 2) := by decide +kernel
theorem dX12_reckons_126 : decode cX12_reckons 126 = .ok (.iload_n 3, 1) := by decide +kernel
theorem dX12_reckons_127 : decode cX12_reckons 127 = .ok (.imul, 1) := by decide +kernel
theorem dX12_reckons_128 : decode cX12_reckons 128 = .ok (.goto 14, 3) := by decide +kernel
theorem dX12_reckons_131 : decode cX12_reckons 131 = .ok (.iload 5, 2) := by decide +kernel
theorem dX12_reckons_133 : decode cX12_reckons 133 = .ok (.iload_n 3, 1) := by decide +kernel
theorem dX12_reckons_134 : decode cX12_reckons 134 = .ok (.if_icmp .ge 7, 3) := by decide +kernel
theorem dX12_reckons_137 : decode cX12_reckons 137 = .ok (.iconst 1, 1) := by decide +kernel
theorem dX12_reckons_138 : decode cX12_reckons 138 = .ok (.goto 4, 3) := by decide +kernel
theorem dX12_reckons_141 : decode cX12_reckons 141 = .ok (.iconst 0, 1) := by decide +kernel
theorem dX12_reckons_142 : decode cX12_reckons 142 = .ok (.invokevirtual 778, 3) := by decide +kernel
theorem dX12_reckons_145 : decode cX12_reckons 145 = .ok (.return_, 1) := by decide +kernel
theorem dX12_stepField_0 : decode cX12_stepField 0 = .ok (.iconst 1, 1) := by decide +kernel
theorem dX12_stepField_1 : decode cX12_stepField 1 = .ok (.istore 4, 2) := by decide +kernel
theorem dX12_stepField_3 : decode cX12_stepField 3 = .ok (.iconst 0, 1) := by decide +kernel
theorem dX12_stepField_4 : decode cX12_stepField 4 = .ok (.istore 5, 2) := by decide +kernel
theorem dX12_stepField_6 : decode cX12_stepField 6 = .ok (.iload_n 1, 1) := by decide +kernel
theorem dX12_stepField_7 : decode cX12_stepField 7 = .ok (.bipush 6, 2) := by decide +kernel
theorem dX12_stepField_9 : decode cX12_stepField 9 = .ok (.if_icmp .ne 15, 3) := by decide +kernel
theorem dX12_stepField_12 : decode cX12_stepField 12 = .ok (.aload_n 0, 1) := by decide +kernel
theorem dX12_stepField_13 : decode cX12_stepField 13 = .ok (.invokevirtual 857, 3) := by decide +kernel
theorem dX12_stepField_16 : decode cX12_stepField 16 = .ok (.istore 4, 2) := by decide +kernel
theorem dX12_stepField_18 : decode cX12_stepField 18 = .ok (.aload_n 0, 1) := by decide +kernel
theorem dX12_stepField_19 : decode cX12_stepField 19 = .ok (.getfield 762, 3) := by decide +kernel
theorem dX12_stepField_22 : decode cX12_stepField 22 = .ok (.istore 5, 2) := by decide +kernel
theorem dX12_stepField_24 : decode cX12_stepField 24 = .ok (.aload_n 0, 1) := by decide +kernel
theorem dX12_stepField_25 : decode cX12_stepField 25 = .ok (.invokevirtual 857, 3) := by decide +kernel
theorem dX12_stepField_28 : decode cX12_stepField 28 = .ok (.iconst 2, 1) := by decide +kernel
theorem dX12_stepField_29 : decode cX12_stepField 29 = .ok (.if_icmp .eq 9, 3) := by decide +kernel
theorem dX12_stepField_32 : decode cX12_stepField 32 = .ok (.aload_n 0, 1) := by decide +kernel
theorem dX12_stepField_33 : decode cX12_stepField 33 = .ok (.iconst 3, 1) := by decide +kernel
theorem dX12_stepField_34 : decode cX12_stepField 34 = .ok (.invokevirtual 790, 3) := by decide +kernel
theorem dX12_stepField_37 : decode cX12_stepField 37 = .ok (.return_, 1) := by decide +kernel
theorem dX12_stepField_38 : decode cX12_stepField 38 = .ok (.aload_n 0, 1) := by decide +kernel
theorem dX12_stepField_39 : decode cX12_stepField 39 = .ok (.getfield 762, 3) := by decide +kernel
theorem dX12_stepField_42 : decode cX12_stepField 42 = .ok (.istore 6, 2) := by decide +kernel
theorem dX12_stepField_44 : decode cX12_stepField 44 = .ok (.aload_n 0, 1) := by decide +kernel
theorem dX12_stepField_45 : decode cX12_stepField 45 = .ok (.aload_n 0, 1) := by decide +kernel
theorem dX12_stepField_46 : decode cX12_stepField 46 = .ok (.getfield 168, 3) := by decide +kernel
theorem dX12_stepField_49 : decode cX12_stepField 49 = .ok (.iload 6, 2) := by decide +kernel
theorem dX12_stepField_51 : decode cX12_stepField 51 = .ok (.iaload, 1) := by decide +kernel
theorem dX12_stepField_52 : decode cX12_stepField 52 = .ok (.lload_n 2, 1) := by decide +kernel
theorem dX12_stepField_53 : decode cX12_stepField 53 = .ok (.invokevirtual 497, 3) := by decide +kernel
theorem dX12_stepField_56 : decode cX12_stepField 56 = .ok (.istore 7, 2) := by decide +kernel
theorem dX12_stepField_58 : decode cX12_stepField 58 = .ok (.iload 7, 2) := by decide +kernel
theorem dX12_stepField_60 : decode cX12_stepField 60 = .ok (.iconst (-1), 1) := by decide +kernel
theorem dX12_stepField_61 : decode cX12_stepField 61 = .ok (.if_icmp .ne 9, 3) := by decide +kernel
theorem dX12_stepField_64 : decode cX12_stepField 64 = .ok (.aload_n 0, 1) := by decide +kernel
theorem dX12_stepField_65 : decode cX12_stepField 65 = .ok (.iconst 2, 1) := by decide +kernel
theorem dX12_stepField_66 : decode cX12_stepField 66 = .ok (.invokevirtual 790, 3) := by decide +kernel
theorem dX12_stepField_69 : decode cX12_stepField 69 = .ok (.return_, 1) := by decide +kernel
theorem dX12_stepField_70 : decode cX12_stepField 70 = .ok (.aload_n 0, 1) := by decide +kernel
theorem dX12_stepField_71 : decode cX12_stepField 71 = .ok (.getfield 171, 3) := by decide +kernel
theorem dX12_stepField_74 : decode cX12_stepField 74 = .ok (.iload 6, 2) := by decide +kernel
theorem dX12_stepField_76 : decode cX12_stepField 76 = .ok (.iaload, 1) := by decide +kernel
theorem dX12_stepField_77 : decode cX12_stepField 77 = .ok (.iload 7, 2) := by decide +kernel
theorem dX12_stepField_79 : decode cX12_stepField 79 = .ok (.iadd, 1) := by decide +kernel
theorem dX12_stepField_80 : decode cX12_stepField 80 = .ok (.istore 8, 2) := by decide +kernel
theorem dX12_stepField_82 : decode cX12_stepField 82 = .ok (.iload_n 1, 1) := by decide +kernel
theorem dX12_stepField_83 : decode cX12_stepField 83 = .ok (.bipush 6, 2) := by decide +kernel
theorem dX12_stepField_85 : decode cX12_stepField 85 = .ok (.if_icmp .ne 21, 3) := by decide +kernel
theorem dX12_stepField_88 : decode cX12_stepField 88 = .ok (.aload_n 0, 1) := by decide +kernel
theorem dX12_stepField_89 : decode cX12_stepField 89 = .ok (.getfield 175, 3) := by decide +kernel
theorem dX12_stepField_92 : decode cX12_stepField 92 = .ok (.iload 8, 2) := by decide +kernel
theorem dX12_stepField_94 : decode cX12_stepField 94 = .ok (.iload 4, 2) := by decide +kernel
theorem dX12_stepField_96 : decode cX12_stepField 96 = .ok (.iastore, 1) := by decide +kernel
theorem dX12_stepField_97 : decode cX12_stepField 97 = .ok (.aload_n 0, 1) := by decide +kernel
theorem dX12_stepField_98 : decode cX12_stepField 98 = .ok (.getfield 178, 3) := by decide +kernel
theorem dX12_stepField_101 : decode cX12_stepField 101 = .ok (.iload 8, 2) := by decide +kernel
theorem dX12_stepField_103 : decode cX12_stepField 103 = .ok (.iload 5, 2) := by decide +kernel
theorem dX12_stepField_105 : decode cX12_stepField 105 = .ok (.iastore, 1) := by decide +kernel
theorem dX12_stepField_106 : decode cX12_stepField 106 = .ok (.aload_n 0, 1) := by decide +kernel
theorem dX12_stepField_107 : decode cX12_stepField 107 = .ok (.aload_n 0, 1) := by decide +kernel
theorem dX12_stepField_108 : decode cX12_stepField 108 = .ok (.getfield 175, 3) := by decide +kernel
theorem dX12_stepField_111 : decode cX12_stepField 111 = .ok (.iload 8, 2) := by decide +kernel
theorem dX12_stepField_113 : decode cX12_stepField 113 = .ok (.iaload, 1) := by decide +kernel
theorem dX12_stepField_114 : decode cX12_stepField 114 = .ok (.aload_n 0, 1) := by decide +kernel
theorem dX12_stepField_115 : decode cX12_stepField 115 = .ok (.getfield 178, 3) := by decide +kernel
theorem dX12_stepField_118 : decode cX12_stepField 118 = .ok (.iload 8, 2) := by decide +kernel
theorem dX12_stepField_120 : decode cX12_stepField 120 = .ok (.iaload, 1) := by decide +kernel
theorem dX12_stepField_121 : decode cX12_stepField 121 = .ok (.invokevirtual 778, 3) := by decide +kernel
theorem dX12_stepField_124 : decode cX12_stepField 124 = .ok (.return_, 1) := by decide +kernel
theorem dX12_methodOf_0 : decode cX12_methodOf 0 = .ok (.iload_n 1, 1) := by decide +kernel
theorem dX12_methodOf_1 : decode cX12_methodOf 1 = .ok (.istore 5, 2) := by decide +kernel
theorem dX12_methodOf_3 : decode cX12_methodOf 3 = .ok (.iload 5, 2) := by decide +kernel
theorem dX12_methodOf_5 : decode cX12_methodOf 5 = .ok (.iconst (-1), 1) := by decide +kernel
theorem dX12_methodOf_6 : decode cX12_methodOf 6 = .ok (.if_icmp .eq 78, 3) := by decide +kernel
theorem dX12_methodOf_9 : decode cX12_methodOf 9 = .ok (.iconst 0, 1) := by decide +kernel
theorem dX12_methodOf_10 : decode cX12_methodOf 10 = .ok (.istore 6, 2) := by decide +kernel
theorem dX12_methodOf_12 : decode cX12_methodOf 12 = .ok (.iload 6, 2) := by decide +kernel
theorem dX12_methodOf_14 : decode cX12_methodOf 14 = .ok (.aload_n 0, 1) := by decide +kernel
theorem dX12_methodOf_15 : decode cX12_methodOf 15 = .ok (.getfield 51, 3) := by decide +kernel
theorem dX12_methodOf_18 : decode cX12_methodOf 18 = .ok (.iload 5, 2) := by decide +kernel
theorem dX12_methodOf_20 : decode cX12_methodOf 20 = .ok (.iaload, 1) := by decide +kernel
theorem dX12_methodOf_21 : decode cX12_methodOf 21 = .ok (.if_icmp .ge 51, 3) := by decide +kernel
theorem dX12_methodOf_24 : decode cX12_methodOf 24 = .ok (.aload_n 0, 1) := by decide +kernel
theorem dX12_methodOf_25 : decode cX12_methodOf 25 = .ok (.getfield 54, 3) := by decide +kernel
theorem dX12_methodOf_28 : decode cX12_methodOf 28 = .ok (.bipush 12, 2) := by decide +kernel
theorem dX12_methodOf_30 : decode cX12_methodOf 30 = .ok (.iload 5, 2) := by decide +kernel
theorem dX12_methodOf_32 : decode cX12_methodOf 32 = .ok (.imul, 1) := by decide +kernel
theorem dX12_methodOf_33 : decode cX12_methodOf 33 = .ok (.iload 6, 2) := by decide +kernel
theorem dX12_methodOf_35 : decode cX12_methodOf 35 = .ok (.iadd, 1) := by decide +kernel
theorem dX12_methodOf_36 : decode cX12_methodOf 36 = .ok (.iaload, 1) := by decide +kernel
theorem dX12_methodOf_37 : decode cX12_methodOf 37 = .ok (.istore 7, 2) := by decide +kernel
theorem dX12_methodOf_39 : decode cX12_methodOf 39 = .ok (.aload_n 0, 1) := by decide +kernel
theorem dX12_methodOf_40 : decode cX12_methodOf 40 = .ok (.getfield 84, 3) := by decide +kernel
theorem dX12_methodOf_43 : decode cX12_methodOf 43 = .ok (.iload 7, 2) := by decide +kernel
theorem dX12_methodOf_45 : decode cX12_methodOf 45 = .ok (.laload, 1) := by decide +kernel
theorem dX12_methodOf_46 : decode cX12_methodOf 46 = .ok (.lload_n 2, 1) := by decide +kernel
theorem dX12_methodOf_47 : decode cX12_methodOf 47 = .ok (.lcmp, 1) := by decide +kernel
theorem dX12_methodOf_48 : decode cX12_methodOf 48 = .ok (.ifCond .ne 18, 3) := by decide +kernel
theorem dX12_methodOf_51 : decode cX12_methodOf 51 = .ok (.aload_n 0, 1) := by decide +kernel
theorem dX12_methodOf_52 : decode cX12_methodOf 52 = .ok (.getfield 72, 3) := by decide +kernel
theorem dX12_methodOf_55 : decode cX12_methodOf 55 = .ok (.iload 7, 2) := by decide +kernel
theorem dX12_methodOf_57 : decode cX12_methodOf 57 = .ok (.iaload, 1) := by decide +kernel
theorem dX12_methodOf_58 : decode cX12_methodOf 58 = .ok (.iload 4, 2) := by decide +kernel
theorem dX12_methodOf_60 : decode cX12_methodOf 60 = .ok (.if_icmp .ne 6, 3) := by decide +kernel
theorem dX12_methodOf_63 : decode cX12_methodOf 63 = .ok (.iload 7, 2) := by decide +kernel
theorem dX12_methodOf_65 : decode cX12_methodOf 65 = .ok (.ireturn, 1) := by decide +kernel
theorem dX12_methodOf_66 : decode cX12_methodOf 66 = .ok (.iinc 6 1, 3) := by decide +kernel
theorem dX12_methodOf_69 : decode cX12_methodOf 69 = .ok (.goto (-57), 3) := by decide +kernel
theorem dX12_methodOf_72 : decode cX12_methodOf 72 = .ok (.aload_n 0, 1) := by decide +kernel
theorem dX12_methodOf_73 : decode cX12_methodOf 73 = .ok (.getfield 42, 3) := by decide +kernel
theorem dX12_methodOf_76 : decode cX12_methodOf 76 = .ok (.iload 5, 2) := by decide +kernel
theorem dX12_methodOf_78 : decode cX12_methodOf 78 = .ok (.iaload, 1) := by decide +kernel
theorem dX12_methodOf_79 : decode cX12_methodOf 79 = .ok (.istore 5, 2) := by decide +kernel
theorem dX12_methodOf_81 : decode cX12_methodOf 81 = .ok (.goto (-78), 3) := by decide +kernel
theorem dX12_methodOf_84 : decode cX12_methodOf 84 = .ok (.iconst (-1), 1) := by decide +kernel
theorem dX12_methodOf_85 : decode cX12_methodOf 85 = .ok (.ireturn, 1) := by decide +kernel
theorem dX12_sends_0 : decode cX12_sends 0 = .ok (.sipush 9000, 3) := by decide +kernel
theorem dX12_sends_3 : decode cX12_sends 3 = .ok (.aload_n 0, 1) := by decide +kernel
theorem dX12_sends_4 : decode cX12_sends 4 = .ok (.getfield 759, 3) := by decide +kernel
theorem dX12_sends_7 : decode cX12_sends 7 = .ok (.imul, 1) := by decide +kernel
theorem dX12_sends_8 : decode cX12_sends 8 = .ok (.aload_n 0, 1) := by decide +kernel
theorem dX12_sends_9 : decode cX12_sends 9 = .ok (.getfield 233, 3) := by decide +kernel
theorem dX12_sends_12 : decode cX12_sends 12 = .ok (.aload_n 0, 1) := by decide +kernel
theorem dX12_sends_13 : decode cX12_sends 13 = .ok (.getfield 759, 3) := by decide +kernel
theorem dX12_sends_16 : decode cX12_sends 16 = .ok (.iaload, 1) := by decide +kernel
theorem dX12_sends_17 : decode cX12_sends 17 = .ok (.iadd, 1) := by decide +kernel
theorem dX12_sends_18 : decode cX12_sends 18 = .ok (.iload_n 3, 1) := by decide +kernel
theorem dX12_sends_19 : decode cX12_sends 19 = .ok (.isub, 1) := by decide +kernel
theorem dX12_sends_20 : decode cX12_sends 20 = .ok (.iconst 1, 1) := by decide +kernel
theorem dX12_sends_21 : decode cX12_sends 21 = .ok (.isub, 1) := by decide +kernel
theorem dX12_sends_22 : decode cX12_sends 22 = .ok (.istore 4, 2) := by decide +kernel
theorem dX12_sends_24 : decode cX12_sends 24 = .ok (.aload_n 0, 1) := by decide +kernel
theorem dX12_sends_25 : decode cX12_sends 25 = .ok (.getfield 233, 3) := by decide +kernel
theorem dX12_sends_28 : decode cX12_sends 28 = .ok (.aload_n 0, 1) := by decide +kernel
theorem dX12_sends_29 : decode cX12_sends 29 = .ok (.getfield 759, 3) := by decide +kernel
theorem dX12_sends_32 : decode cX12_sends 32 = .ok (.dup2, 1) := by decide +kernel
theorem dX12_sends_33 : decode cX12_sends 33 = .ok (.iaload, 1) := by decide +kernel
theorem dX12_sends_34 : decode cX12_sends 34 = .ok (.iload_n 3, 1) := by decide +kernel
theorem dX12_sends_35 : decode cX12_sends 35 = .ok (.iconst 1, 1) := by decide +kernel
theorem dX12_sends_36 : decode cX12_sends 36 = .ok (.iadd, 1) := by decide +kernel
theorem dX12_sends_37 : decode cX12_sends 37 = .ok (.isub, 1) := by decide +kernel
theorem dX12_sends_38 : decode cX12_sends 38 = .ok (.iastore, 1) := by decide +kernel
theorem dX12_sends_39 : decode cX12_sends 39 = .ok (.aload_n 0, 1) := by decide +kernel
theorem dX12_sends_40 : decode cX12_sends 40 = .ok (.getfield 237, 3) := by decide +kernel
theorem dX12_sends_43 : decode cX12_sends 43 = .ok (.iload 4, 2) := by decide +kernel
theorem dX12_sends_45 : decode cX12_sends 45 = .ok (.iaload, 1) := by decide +kernel
theorem dX12_sends_46 : decode cX12_sends 46 = .ok (.iconst 2, 1) := by decide +kernel
theorem dX12_sends_47 : decode cX12_sends 47 = .ok (.if_icmp .eq 9, 3) := by decide +kernel
theorem dX12_sends_50 : decode cX12_sends 50 = .ok (.aload_n 0, 1) := by decide +kernel
theorem dX12_sends_51 : decode cX12_sends 51 = .ok (.iconst 3, 1) := by decide +kernel
theorem dX12_sends_52 : decode cX12_sends 52 = .ok (.invokevirtual 790, 3) := by decide +kernel
theorem dX12_sends_55 : decode cX12_sends 55 = .ok (.return_, 1) := by decide +kernel
theorem dX12_sends_56 : decode cX12_sends 56 = .ok (.aload_n 0, 1) := by decide +kernel
theorem dX12_sends_57 : decode cX12_sends 57 = .ok (.aload_n 0, 1) := by decide +kernel
theorem dX12_sends_58 : decode cX12_sends 58 = .ok (.getfield 168, 3) := by decide +kernel
theorem dX12_sends_61 : decode cX12_sends 61 = .ok (.aload_n 0, 1) := by decide +kernel
theorem dX12_sends_62 : decode cX12_sends 62 = .ok (.getfield 240, 3) := by decide +kernel
theorem dX12_sends_65 : decode cX12_sends 65 = .ok (.iload 4, 2) := by decide +kernel
theorem dX12_sends_67 : decode cX12_sends 67 = .ok (.iaload, 1) := by decide +kernel
theorem dX12_sends_68 : decode cX12_sends 68 = .ok (.iaload, 1) := by decide +kernel
theorem dX12_sends_69 : decode cX12_sends 69 = .ok (.lload_n 1, 1) := by decide +kernel
theorem dX12_sends_70 : decode cX12_sends 70 = .ok (.iload_n 3, 1) := by decide +kernel
theorem dX12_sends_71 : decode cX12_sends 71 = .ok (.invokevirtual 898, 3) := by decide +kernel
theorem dX12_sends_74 : decode cX12_sends 74 = .ok (.istore 5, 2) := by decide +kernel
theorem dX12_sends_76 : decode cX12_sends 76 = .ok (.iload 5, 2) := by decide +kernel
theorem dX12_sends_78 : decode cX12_sends 78 = .ok (.iconst (-1), 1) := by decide +kernel
theorem dX12_sends_79 : decode cX12_sends 79 = .ok (.if_icmp .ne 9, 3) := by decide +kernel
theorem dX12_sends_82 : decode cX12_sends 82 = .ok (.aload_n 0, 1) := by decide +kernel
theorem dX12_sends_83 : decode cX12_sends 83 = .ok (.iconst 2, 1) := by decide +kernel
theorem dX12_sends_84 : decode cX12_sends 84 = .ok (.invokevirtual 790, 3) := by decide +kernel
theorem dX12_sends_87 : decode cX12_sends 87 = .ok (.return_, 1) := by decide +kernel
theorem dX12_sends_88 : decode cX12_sends 88 = .ok (.aload_n 0, 1) := by decide +kernel
theorem dX12_sends_89 : decode cX12_sends 89 = .ok (.aload_n 0, 1) := by decide +kernel
theorem dX12_sends_90 : decode cX12_sends 90 = .ok (.getfield 759, 3) := by decide +kernel
theorem dX12_sends_93 : decode cX12_sends 93 = .ok (.iload 5, 2) := by decide +kernel
theorem dX12_sends_95 : decode cX12_sends 95 = .ok (.iconst 0, 1) := by decide +kernel
theorem dX12_sends_96 : decode cX12_sends 96 = .ok (.invokevirtual 826, 3) := by decide +kernel
theorem dX12_sends_99 : decode cX12_sends 99 = .ok (.ifCond .eq 52, 3) := by decide +kernel
theorem dX12_sends_102 : decode cX12_sends 102 = .ok (.iconst 0, 1) := by decide +kernel
theorem dX12_sends_103 : decode cX12_sends 103 = .ok (.istore 6, 2) := by decide +kernel
theorem dX12_sends_105 : decode cX12_sends 105 = .ok (.iload 6, 2) := by decide +kernel
theorem dX12_sends_107 : decode cX12_sends 107 = .ok (.iload_n 3, 1) := by decide +kernel
theorem dX12_sends_108 : decode cX12_sends 108 = .ok (.if_icmp .gt 43, 3) := by decide +kernel
theorem dX12_sends_111 : decode cX12_sends 111 = .ok (.aload_n 0, 1) := by decide +kernel
theorem dX12_sends_112 : decode cX12_sends 112 = .ok (.aload_n 0, 1) := by decide +kernel
theorem dX12_sends_113 : decode cX12_sends 113 = .ok (.getfield 759, 3) := by decide +kernel
theorem dX12_sends_116 : decode cX12_sends 116 = .ok (.aload_n 0, 1) := by decide +kernel
theorem dX12_sends_117 : decode cX12_sends 117 = .ok (.invokevirtual 775, 3) := by decide +kernel
theorem dX12_sends_120 : decode cX12_sends 120 = .ok (.iload 6, 2) := by decide +kernel
theorem dX12_sends_122 : decode cX12_sends 122 = .ok (.aload_n 0, 1) := by decide +kernel
theorem dX12_sends_123 : decode cX12_sends 123 = .ok (.getfield 237, 3) := by decide +kernel
theorem dX12_sends_126 : decode cX12_sends 126 = .ok (.iload 4, 2) := by decide +kernel
theorem dX12_sends_128 : decode cX12_sends 128 = .ok (.iload 6, 2) := by decide +kernel
theorem dX12_sends_130 : decode cX12_sends 130 = .ok (.iadd, 1) := by decide +kernel
theorem dX12_sends_131 : decode cX12_sends 131 = .ok (.iaload, 1) := by decide +kernel
theorem dX12_sends_132 : decode cX12_sends 132 = .ok (.aload_n 0, 1) := by decide +kernel
theorem dX12_sends_133 : decode cX12_sends 133 = .ok (.getfield 240, 3) := by decide +kernel
theorem dX12_sends_136 : decode cX12_sends 136 = .ok (.iload 4, 2) := by decide +kernel
theorem dX12_sends_138 : decode cX12_sends 138 = .ok (.iload 6, 2) := by decide +kernel
theorem dX12_sends_140 : decode cX12_sends 140 = .ok (.iadd, 1) := by decide +kernel
theorem dX12_sends_141 : decode cX12_sends 141 = .ok (.iaload, 1) := by decide +kernel
theorem dX12_sends_142 : decode cX12_sends 142 = .ok (.invokevirtual 805, 3) := by decide +kernel
theorem dX12_sends_145 : decode cX12_sends 145 = .ok (.iinc 6 1, 3) := by decide +kernel
theorem dX12_sends_148 : decode cX12_sends 148 = .ok (.goto (-43), 3) := by decide +kernel
theorem dX12_sends_151 : decode cX12_sends 151 = .ok (.return_, 1) := by decide +kernel
theorem dX12_takeCaptured_0 : decode cX12_takeCaptured 0 = .ok (.bipush 60, 2) := by decide +kernel
theorem dX12_takeCaptured_2 : decode cX12_takeCaptured 2 = .ok (.iload_n 1, 1) := by decide +kernel
theorem dX12_takeCaptured_3 : decode cX12_takeCaptured 3 = .ok (.imul, 1) := by decide +kernel
theorem dX12_takeCaptured_4 : decode cX12_takeCaptured 4 = .ok (.aload_n 0, 1) := by decide +kernel
theorem dX12_takeCaptured_5 : decode cX12_takeCaptured 5 = .ok (.getfield 205, 3) := by decide +kernel
theorem dX12_takeCaptured_8 : decode cX12_takeCaptured 8 = .ok (.iload_n 1, 1) := by decide +kernel
theorem dX12_takeCaptured_9 : decode cX12_takeCaptured 9 = .ok (.iaload, 1) := by decide +kernel
theorem dX12_takeCaptured_10 : decode cX12_takeCaptured 10 = .ok (.iadd, 1) := by decide +kernel
theorem dX12_takeCaptured_11 : decode cX12_takeCaptured 11 = .ok (.iconst 1, 1) := by decide +kernel
theorem dX12_takeCaptured_12 : decode cX12_takeCaptured 12 = .ok (.isub, 1) := by decide +kernel
theorem dX12_takeCaptured_13 : decode cX12_takeCaptured 13 = .ok (.istore_n 3, 1) := by decide +kernel
theorem dX12_takeCaptured_14 : decode cX12_takeCaptured 14 = .ok (.iconst 0, 1) := by decide +kernel
theorem dX12_takeCaptured_15 : decode cX12_takeCaptured 15 = .ok (.istore 4, 2) := by decide +kernel
theorem dX12_takeCaptured_17 : decode cX12_takeCaptured 17 = .ok (.iload 4, 2) := by decide +kernel
theorem dX12_takeCaptured_19 : decode cX12_takeCaptured 19 = .ok (.aload_n 0, 1) := by decide +kernel
theorem dX12_takeCaptured_20 : decode cX12_takeCaptured 20 = .ok (.getfield 87, 3) := by decide +kernel
theorem dX12_takeCaptured_23 : decode cX12_takeCaptured 23 = .ok (.aload_n 0, 1) := by decide +kernel
theorem dX12_takeCaptured_24 : decode cX12_takeCaptured 24 = .ok (.getfield 168, 3) := by decide +kernel
theorem dX12_takeCaptured_27 : decode cX12_takeCaptured 27 = .ok (.iload_n 2, 1) := by decide +kernel
theorem dX12_takeCaptured_28 : decode cX12_takeCaptured 28 = .ok (.iaload, 1) := by decide +kernel
theorem dX12_takeCaptured_29 : decode cX12_takeCaptured 29 = .ok (.iaload, 1) := by decide +kernel
theorem dX12_takeCaptured_30 : decode cX12_takeCaptured 30 = .ok (.if_icmp .ge 45, 3) := by decide +kernel
theorem dX12_takeCaptured_33 : decode cX12_takeCaptured 33 = .ok (.aload_n 0, 1) := by decide +kernel
theorem dX12_takeCaptured_34 : decode cX12_takeCaptured 34 = .ok (.iload_n 1, 1) := by decide +kernel
theorem dX12_takeCaptured_35 : decode cX12_takeCaptured 35 = .ok (.iload_n 3, 1) := by decide +kernel
theorem dX12_takeCaptured_36 : decode cX12_takeCaptured 36 = .ok (.iload 4, 2) := by decide +kernel
theorem dX12_takeCaptured_38 : decode cX12_takeCaptured 38 = .ok (.aload_n 0, 1) := by decide +kernel
theorem dX12_takeCaptured_39 : decode cX12_takeCaptured 39 = .ok (.getfield 175, 3) := by decide +kernel
theorem dX12_takeCaptured_42 : decode cX12_takeCaptured 42 = .ok (.aload_n 0, 1) := by decide +kernel
theorem dX12_takeCaptured_43 : decode cX12_takeCaptured 43 = .ok (.getfield 171, 3) := by decide +kernel
theorem dX12_takeCaptured_46 : decode cX12_takeCaptured 46 = .ok (.iload_n 2, 1) := by decide +kernel
theorem dX12_takeCaptured_47 : decode cX12_takeCaptured 47 = .ok (.iaload, 1) := by decide +kernel
theorem dX12_takeCaptured_48 : decode cX12_takeCaptured 48 = .ok (.iload 4, 2) := by decide +kernel
theorem dX12_takeCaptured_50 : decode cX12_takeCaptured 50 = .ok (.iadd, 1) := by decide +kernel
theorem dX12_takeCaptured_51 : decode cX12_takeCaptured 51 = .ok (.iaload, 1) := by decide +kernel
theorem dX12_takeCaptured_52 : decode cX12_takeCaptured 52 = .ok (.aload_n 0, 1) := by decide +kernel
theorem dX12_takeCaptured_53 : decode cX12_takeCaptured 53 = .ok (.getfield 178, 3) := by decide +kernel
theorem dX12_takeCaptured_56 : decode cX12_takeCaptured 56 = .ok (.aload_n 0, 1) := by decide +kernel
theorem dX12_takeCaptured_57 : decode cX12_takeCaptured 57 = .ok (.getfield 171, 3) := by decide +kernel
theorem dX12_takeCaptured_60 : decode cX12_takeCaptured 60 = .ok (.iload_n 2, 1) := by decide +kernel
theorem dX12_takeCaptured_61 : decode cX12_takeCaptured 61 = .ok (.iaload, 1) := by decide +kernel
theorem dX12_takeCaptured_62 : decode cX12_takeCaptured 62 = .ok (.iload 4, 2) := by decide +kernel
theorem dX12_takeCaptured_64 : decode cX12_takeCaptured 64 = .ok (.iadd, 1) := by decide +kernel
theorem dX12_takeCaptured_65 : decode cX12_takeCaptured 65 = .ok (.iaload, 1) := by decide +kernel
theorem dX12_takeCaptured_66 : decode cX12_takeCaptured 66 = .ok (.invokevirtual 805, 3) := by decide +kernel
theorem dX12_takeCaptured_69 : decode cX12_takeCaptured 69 = .ok (.iinc 4 1, 3) := by decide +kernel
theorem dX12_takeCaptured_72 : decode cX12_takeCaptured 72 = .ok (.goto (-55), 3) := by decide +kernel
theorem dX12_takeCaptured_75 : decode cX12_takeCaptured 75 = .ok (.return_, 1) := by decide +kernel
theorem dX12_applies_0 : decode cX12_applies 0 = .ok (.sipush 9000, 3) := by decide +kernel
theorem dX12_applies_3 : decode cX12_applies 3 = .ok (.aload_n 0, 1) := by decide +kernel
theorem dX12_applies_4 : decode cX12_applies 4 = .ok (.getfield 759, 3) := by decide +kernel
theorem dX12_applies_7 : decode cX12_applies 7 = .ok (.imul, 1) := by decide +kernel
theorem dX12_applies_8 : decode cX12_applies 8 = .ok (.aload_n 0, 1) := by decide +kernel
theorem dX12_applies_9 : decode cX12_applies 9 = .ok (.getfield 233, 3) := by decide +kernel
theorem dX12_applies_12 : decode cX12_applies 12 = .ok (.aload_n 0, 1) := by decide +kernel
theorem dX12_applies_13 : decode cX12_applies 13 = .ok (.getfield 759, 3) := by decide +kernel
theorem dX12_applies_16 : decode cX12_applies 16 = .ok (.iaload, 1) := by decide +kernel
theorem dX12_applies_17 : decode cX12_applies 17 = .ok (.iadd, 1) := by decide +kernel
theorem dX12_applies_18 : decode cX12_applies 18 = .ok (.iload_n 1, 1) := by decide +kernel
theorem dX12_applies_19 : decode cX12_applies 19 = .ok (.isub, 1) := by decide +kernel
theorem dX12_applies_20 : decode cX12_applies 20 = .ok (.iconst 1, 1) := by decide +kernel
theorem dX12_applies_21 : decode cX12_applies 21 = .ok (.isub, 1) := by decide +kernel
theorem dX12_applies_22 : decode cX12_applies 22 = .ok (.istore_n 2, 1) := by decide +kernel
theorem dX12_applies_23 : decode cX12_applies 23 = .ok (.aload_n 0, 1) := by decide +kernel
theorem dX12_applies_24 : decode cX12_applies 24 = .ok (.getfield 233, 3) := by decide +kernel
theorem dX12_applies_27 : decode cX12_applies 27 = .ok (.aload_n 0, 1) := by decide +kernel
theorem dX12_applies_28 : decode cX12_applies 28 = .ok (.getfield 759, 3) := by decide +kernel
theorem dX12_applies_31 : decode cX12_applies 31 = .ok (.dup2, 1) := by decide +kernel
theorem dX12_applies_32 : decode cX12_applies 32 = .ok (.iaload, 1) := by decide +kernel
theorem dX12_applies_33 : decode cX12_applies 33 = .ok (.iload_n 1, 1) := by decide +kernel
theorem dX12_applies_34 : decode cX12_applies 34 = .ok (.iconst 1, 1) := by decide +kernel
theorem dX12_applies_35 : decode cX12_applies 35 = .ok (.iadd, 1) := by decide +kernel
theorem dX12_applies_36 : decode cX12_applies 36 = .ok (.isub, 1) := by decide +kernel
theorem dX12_applies_37 : decode cX12_applies 37 = .ok (.iastore, 1) := by decide +kernel
theorem dX12_applies_38 : decode cX12_applies 38 = .ok (.aload_n 0, 1) := by decide +kernel
theorem dX12_applies_39 : decode cX12_applies 39 = .ok (.getfield 237, 3) := by decide +kernel
theorem dX12_applies_42 : decode cX12_applies 42 = .ok (.iload_n 2, 1) := by decide +kernel
theorem dX12_applies_43 : decode cX12_applies 43 = .ok (.iaload, 1) := by decide +kernel
theorem dX12_applies_44 : decode cX12_applies 44 = .ok (.iconst 3, 1) := by decide +kernel
theorem dX12_applies_45 : decode cX12_applies 45 = .ok (.if_icmp .eq 9, 3) := by decide +kernel
theorem dX12_applies_48 : decode cX12_applies 48 = .ok (.aload_n 0, 1) := by decide +kernel
theorem dX12_applies_49 : decode cX12_applies 49 = .ok (.iconst 3, 1) := by decide +kernel
theorem dX12_applies_50 : decode cX12_applies 50 = .ok (.invokevirtual 790, 3) := by decide +kernel
theorem dX12_applies_53 : decode cX12_applies 53 = .ok (.return_, 1) := by decide +kernel
theorem dX12_applies_54 : decode cX12_applies 54 = .ok (.aload_n 0, 1) := by decide +kernel
theorem dX12_applies_55 : decode cX12_applies 55 = .ok (.getfield 240, 3) := by decide +kernel
theorem dX12_applies_58 : decode cX12_applies 58 = .ok (.iload_n 2, 1) := by decide +kernel
theorem dX12_applies_59 : decode cX12_applies 59 = .ok (.iaload, 1) := by decide +kernel
theorem dX12_applies_60 : decode cX12_applies 60 = .ok (.istore_n 3, 1) := by decide +kernel
theorem dX12_applies_61 : decode cX12_applies 61 = .ok (.aload_n 0, 1) := by decide +kernel
theorem dX12_applies_62 : decode cX12_applies 62 = .ok (.getfield 168, 3) := by decide +kernel
theorem dX12_applies_65 : decode cX12_applies 65 = .ok (.iload_n 3, 1) := by decide +kernel
theorem dX12_applies_66 : decode cX12_applies 66 = .ok (.iaload, 1) := by decide +kernel
theorem dX12_applies_67 : decode cX12_applies 67 = .ok (.istore 4, 2) := by decide +kernel
theorem dX12_applies_69 : decode cX12_applies 69 = .ok (.aload_n 0, 1) := by decide +kernel
theorem dX12_applies_70 : decode cX12_applies 70 = .ok (.getfield 72, 3) := by decide +kernel
theorem dX12_applies_73 : decode cX12_applies 73 = .ok (.iload 4, 2) := by decide +kernel
theorem dX12_applies_75 : decode cX12_applies 75 = .ok (.iaload, 1) := by decide +kernel
theorem dX12_applies_76 : decode cX12_applies 76 = .ok (.iload_n 1, 1) := by decide +kernel
theorem dX12_applies_77 : decode cX12_applies 77 = .ok (.if_icmp .eq 9, 3) := by decide +kernel
theorem dX12_applies_80 : decode cX12_applies 80 = .ok (.aload_n 0, 1) := by decide +kernel
theorem dX12_applies_81 : decode cX12_applies 81 = .ok (.iconst 4, 1) := by decide +kernel
theorem dX12_applies_82 : decode cX12_applies 82 = .ok (.invokevirtual 790, 3) := by decide +kernel
theorem dX12_applies_85 : decode cX12_applies 85 = .ok (.return_, 1) := by decide +kernel
theorem dX12_applies_86 : decode cX12_applies 86 = .ok (.aload_n 0, 1) := by decide +kernel
theorem dX12_applies_87 : decode cX12_applies 87 = .ok (.aload_n 0, 1) := by decide +kernel
theorem dX12_applies_88 : decode cX12_applies 88 = .ok (.getfield 759, 3) := by decide +kernel
theorem dX12_applies_91 : decode cX12_applies 91 = .ok (.iload 4, 2) := by decide +kernel
theorem dX12_applies_93 : decode cX12_applies 93 = .ok (.iconst 0, 1) := by decide +kernel
theorem dX12_applies_94 : decode cX12_applies 94 = .ok (.invokevirtual 826, 3) := by decide +kernel
theorem dX12_applies_97 : decode cX12_applies 97 = .ok (.ifCond .eq 71, 3) := by decide +kernel
theorem dX12_applies_100 : decode cX12_applies 100 = .ok (.aload_n 0, 1) := by decide +kernel
theorem dX12_applies_101 : decode cX12_applies 101 = .ok (.aload_n 0, 1) := by decide +kernel
theorem dX12_applies_102 : decode cX12_applies 102 = .ok (.getfield 759, 3) := by decide +kernel
theorem dX12_applies_105 : decode cX12_applies 105 = .ok (.iload_n 3, 1) := by decide +kernel
theorem dX12_applies_106 : decode cX12_applies 106 = .ok (.invokevirtual 902, 3) := by decide +kernel
theorem dX12_applies_109 : decode cX12_applies 109 = .ok (.iconst 0, 1) := by decide +kernel
theorem dX12_applies_110 : decode cX12_applies 110 = .ok (.istore 5, 2) := by decide +kernel
theorem dX12_applies_112 : decode cX12_applies 112 = .ok (.iload 5, 2) := by decide +kernel
theorem dX12_applies_114 : decode cX12_applies 114 = .ok (.iload_n 1, 1) := by decide +kernel
theorem dX12_applies_115 : decode cX12_applies 115 = .ok (.if_icmp .ge 53, 3) := by decide +kernel
theorem dX12_applies_118 : decode cX12_applies 118 = .ok (.aload_n 0, 1) := by decide +kernel
theorem dX12_applies_119 : decode cX12_applies 119 = .ok (.aload_n 0, 1) := by decide +kernel
theorem dX12_applies_120 : decode cX12_applies 120 = .ok (.getfield 759, 3) := by decide +kernel
theorem dX12_applies_123 : decode cX12_applies 123 = .ok (.aload_n 0, 1) := by decide +kernel
theorem dX12_applies_124 : decode cX12_applies 124 = .ok (.invokevirtual 775, 3) := by decide +kernel
theorem dX12_applies_127 : decode cX12_applies 127 = .ok (.aload_n 0, 1) := by decide +kernel
theorem dX12_applies_128 : decode cX12_applies 128 = .ok (.getfield 87, 3) := by decide +kernel
theorem dX12_applies_131 : decode cX12_applies 131 = .ok (.iload 4, 2) := by decide +kernel
theorem dX12_applies_133 : decode cX12_applies 133 = .ok (.iaload, 1) := by decide +kernel
theorem dX12_applies_134 : decode cX12_applies 134 = .ok (.iload 5, 2) := by decide +kernel
theorem dX12_applies_136 : decode cX12_applies 136 = .ok (.iadd, 1) := by decide +kernel
theorem dX12_applies_137 : decode cX12_applies 137 = .ok (.aload_n 0, 1) := by decide +kernel
theorem dX12_applies_138 : decode cX12_applies 138 = .ok (.getfield 237, 3) := by decide +kernel
theorem dX12_applies_141 : decode cX12_applies 141 = .ok (.iload_n 2, 1) := by decide +kernel
theorem dX12_applies_142 : decode cX12_applies 142 = .ok (.iconst 1, 1) := by decide +kernel
theorem dX12_applies_143 : decode cX12_applies 143 = .ok (.iadd, 1) := by decide +kernel
theorem dX12_applies_144 : decode cX12_applies 144 = .ok (.iload 5, 2) := by decide +kernel
theorem dX12_applies_146 : decode cX12_applies 146 = .ok (.iadd, 1) := by decide +kernel
theorem dX12_applies_147 : decode cX12_applies 147 = .ok (.iaload, 1) := by decide +kernel
theorem dX12_applies_148 : decode cX12_applies 148 = .ok (.aload_n 0, 1) := by decide +kernel
theorem dX12_applies_149 : decode cX12_applies 149 = .ok (.getfield 240, 3) := by decide +kernel
theorem dX12_applies_152 : decode cX12_applies 152 = .ok (.iload_n 2, 1) := by decide +kernel
theorem dX12_applies_153 : decode cX12_applies 153 = .ok (.iconst 1, 1) := by decide +kernel
theorem dX12_applies_154 : decode cX12_applies 154 = .ok (.iadd, 1) := by decide +kernel
theorem dX12_applies_155 : decode cX12_applies 155 = .ok (.iload 5, 2) := by decide +kernel
theorem dX12_applies_157 : decode cX12_applies 157 = .ok (.iadd, 1) := by decide +kernel
theorem dX12_applies_158 : decode cX12_applies 158 = .ok (.iaload, 1) := by decide +kernel
theorem dX12_applies_159 : decode cX12_applies 159 = .ok (.invokevirtual 805, 3) := by decide +kernel
theorem dX12_applies_162 : decode cX12_applies 162 = .ok (.iinc 5 1, 3) := by decide +kernel
theorem dX12_applies_165 : decode cX12_applies 165 = .ok (.goto (-53), 3) := by decide +kernel
theorem dX12_applies_168 : decode cX12_applies 168 = .ok (.return_, 1) := by decide +kernel
theorem dX12_closes_0 : decode cX12_closes 0 = .ok (.aload_n 0, 1) := by decide +kernel
theorem dX12_closes_1 : decode cX12_closes 1 = .ok (.getfield 233, 3) := by decide +kernel
theorem dX12_closes_4 : decode cX12_closes 4 = .ok (.aload_n 0, 1) := by decide +kernel
theorem dX12_closes_5 : decode cX12_closes 5 = .ok (.getfield 759, 3) := by decide +kernel
theorem dX12_closes_8 : decode cX12_closes 8 = .ok (.dup2, 1) := by decide +kernel
theorem dX12_closes_9 : decode cX12_closes 9 = .ok (.iaload, 1) := by decide +kernel
theorem dX12_closes_10 : decode cX12_closes 10 = .ok (.aload_n 0, 1) := by decide +kernel
theorem dX12_closes_11 : decode cX12_closes 11 = .ok (.getfield 87, 3) := by decide +kernel
theorem dX12_closes_14 : decode cX12_closes 14 = .ok (.iload_n 1, 1) := by decide +kernel
theorem dX12_closes_15 : decode cX12_closes 15 = .ok (.iaload, 1) := by decide +kernel
theorem dX12_closes_16 : decode cX12_closes 16 = .ok (.isub, 1) := by decide +kernel
theorem dX12_closes_17 : decode cX12_closes 17 = .ok (.iastore, 1) := by decide +kernel
theorem dX12_closes_18 : decode cX12_closes 18 = .ok (.aload_n 0, 1) := by decide +kernel
theorem dX12_closes_19 : decode cX12_closes 19 = .ok (.getfield 809, 3) := by decide +kernel
theorem dX12_closes_22 : decode cX12_closes 22 = .ok (.sipush 2000, 3) := by decide +kernel
theorem dX12_closes_25 : decode cX12_closes 25 = .ok (.if_icmp .ne 10, 3) := by decide +kernel
theorem dX12_closes_28 : decode cX12_closes 28 = .ok (.aload_n 0, 1) := by decide +kernel
theorem dX12_closes_29 : decode cX12_closes 29 = .ok (.bipush 9, 2) := by decide +kernel
theorem dX12_closes_31 : decode cX12_closes 31 = .ok (.invokevirtual 790, 3) := by decide +kernel
theorem dX12_closes_34 : decode cX12_closes 34 = .ok (.return_, 1) := by decide +kernel
theorem dX12_closes_35 : decode cX12_closes 35 = .ok (.aload_n 0, 1) := by decide +kernel
theorem dX12_closes_36 : decode cX12_closes 36 = .ok (.iload_n 1, 1) := by decide +kernel
theorem dX12_closes_37 : decode cX12_closes 37 = .ok (.aload_n 0, 1) := by decide +kernel
theorem dX12_closes_38 : decode cX12_closes 38 = .ok (.getfield 87, 3) := by decide +kernel
theorem dX12_closes_41 : decode cX12_closes 41 = .ok (.iload_n 1, 1) := by decide +kernel
theorem dX12_closes_42 : decode cX12_closes 42 = .ok (.iaload, 1) := by decide +kernel
theorem dX12_closes_43 : decode cX12_closes 43 = .ok (.invokevirtual 815, 3) := by decide +kernel
theorem dX12_closes_46 : decode cX12_closes 46 = .ok (.istore_n 2, 1) := by decide +kernel
theorem dX12_closes_47 : decode cX12_closes 47 = .ok (.iconst 0, 1) := by decide +kernel
theorem dX12_closes_48 : decode cX12_closes 48 = .ok (.istore_n 3, 1) := by decide +kernel
theorem dX12_closes_49 : decode cX12_closes 49 = .ok (.iload_n 3, 1) := by decide +kernel
theorem dX12_closes_50 : decode cX12_closes 50 = .ok (.aload_n 0, 1) := by decide +kernel
theorem dX12_closes_51 : decode cX12_closes 51 = .ok (.getfield 87, 3) := by decide +kernel
theorem dX12_closes_54 : decode cX12_closes 54 = .ok (.iload_n 1, 1) := by decide +kernel
theorem dX12_closes_55 : decode cX12_closes 55 = .ok (.iaload, 1) := by decide +kernel
theorem dX12_closes_56 : decode cX12_closes 56 = .ok (.if_icmp .ge 85, 3) := by decide +kernel
theorem dX12_closes_59 : decode cX12_closes 59 = .ok (.aload_n 0, 1) := by decide +kernel
theorem dX12_closes_60 : decode cX12_closes 60 = .ok (.getfield 175, 3) := by decide +kernel
theorem dX12_closes_63 : decode cX12_closes 63 = .ok (.aload_n 0, 1) := by decide +kernel
theorem dX12_closes_64 : decode cX12_closes 64 = .ok (.getfield 171, 3) := by decide +kernel
theorem dX12_closes_67 : decode cX12_closes 67 = .ok (.iload_n 2, 1) := by decide +kernel
theorem dX12_closes_68 : decode cX12_closes 68 = .ok (.iaload, 1) := by decide +kernel
theorem dX12_closes_69 : decode cX12_closes 69 = .ok (.iload_n 3, 1) := by decide +kernel
theorem dX12_closes_70 : decode cX12_closes 70 = .ok (.iadd, 1) := by decide +kernel
theorem dX12_closes_71 : decode cX12_closes 71 = .ok (.aload_n 0, 1) := by decide +kernel
theorem dX12_closes_72 : decode cX12_closes 72 = .ok (.getfield 237, 3) := by decide +kernel
theorem dX12_closes_75 : decode cX12_closes 75 = .ok (.sipush 9000, 3) := by decide +kernel
theorem dX12_closes_78 : decode cX12_closes 78 = .ok (.aload_n 0, 1) := by decide +kernel
theorem dX12_closes_79 : decode cX12_closes 79 = .ok (.getfield 759, 3) := by decide +kernel
theorem dX12_closes_82 : decode cX12_closes 82 = .ok (.imul, 1) := by decide +kernel
theorem dX12_closes_83 : decode cX12_closes 83 = .ok (.aload_n 0, 1) := by decide +kernel
theorem dX12_closes_84 : decode cX12_closes 84 = .ok (.getfield 233, 3) := by decide +kernel
theorem dX12_closes_87 : decode cX12_closes 87 = .ok (.aload_n 0, 1) := by decide +kernel
theorem dX12_closes_88 : decode cX12_closes 88 = .ok (.getfield 759, 3) := by decide +kernel
theorem dX12_closes_91 : decode cX12_closes 91 = .ok (.iaload, 1) := by decide +kernel
theorem dX12_closes_92 : decode cX12_closes 92 = .ok (.iadd, 1) := by decide +kernel
theorem dX12_closes_93 : decode cX12_closes 93 = .ok (.iload_n 3, 1) := by decide +kernel
theorem dX12_closes_94 : decode cX12_closes 94 = .ok (.iadd, 1) := by decide +kernel
theorem dX12_closes_95 : decode cX12_closes 95 = .ok (.iaload, 1) := by decide +kernel
theorem dX12_closes_96 : decode cX12_closes 96 = .ok (.iastore, 1) := by decide +kernel
theorem dX12_closes_97 : decode cX12_closes 97 = .ok (.aload_n 0, 1) := by decide +kernel
theorem dX12_closes_98 : decode cX12_closes 98 = .ok (.getfield 178, 3) := by decide +kernel
theorem dX12_closes_101 : decode cX12_closes 101 = .ok (.aload_n 0, 1) := by decide +kernel
theorem dX12_closes_102 : decode cX12_closes 102 = .ok (.getfield 171, 3) := by decide +kernel
theorem dX12_closes_105 : decode cX12_closes 105 = .ok (.iload_n 2, 1) := by decide +kernel
theorem dX12_closes_106 : decode cX12_closes 106 = .ok (.iaload, 1) := by decide +kernel
theorem dX12_closes_107 : decode cX12_closes 107 = .ok (.iload_n 3, 1) := by decide +kernel
theorem dX12_closes_108 : decode cX12_closes 108 = .ok (.iadd, 1) := by decide +kernel
theorem dX12_closes_109 : decode cX12_closes 109 = .ok (.aload_n 0, 1) := by decide +kernel
theorem dX12_closes_110 : decode cX12_closes 110 = .ok (.getfield 240, 3) := by decide +kernel
theorem dX12_closes_113 : decode cX12_closes 113 = .ok (.sipush 9000, 3) := by decide +kernel
theorem dX12_closes_116 : decode cX12_closes 116 = .ok (.aload_n 0, 1) := by decide +kernel
theorem dX12_closes_117 : decode cX12_closes 117 = .ok (.getfield 759, 3) := by decide +kernel
theorem dX12_closes_120 : decode cX12_closes 120 = .ok (.imul, 1) := by decide +kernel
theorem dX12_closes_121 : decode cX12_closes 121 = .ok (.aload_n 0, 1) := by decide +kernel
theorem dX12_closes_122 : decode cX12_closes 122 = .ok (.getfield 233, 3) := by decide +kernel
theorem dX12_closes_125 : decode cX12_closes 125 = .ok (.aload_n 0, 1) := by decide +kernel
theorem dX12_closes_126 : decode cX12_closes 126 = .ok (.getfield 759, 3) := by decide +kernel
theorem dX12_closes_129 : decode cX12_closes 129 = .ok (.iaload, 1) := by decide +kernel
theorem dX12_closes_130 : decode cX12_closes 130 = .ok (.iadd, 1) := by decide +kernel
theorem dX12_closes_131 : decode cX12_closes 131 = .ok (.iload_n 3, 1) := by decide +kernel
theorem dX12_closes_132 : decode cX12_closes 132 = .ok (.iadd, 1) := by decide +kernel
theorem dX12_closes_133 : decode cX12_closes 133 = .ok (.iaload, 1) := by decide +kernel
theorem dX12_closes_134 : decode cX12_closes 134 = .ok (.iastore, 1) := by decide +kernel
theorem dX12_closes_135 : decode cX12_closes 135 = .ok (.iinc 3 1, 3) := by decide +kernel
theorem dX12_closes_138 : decode cX12_closes 138 = .ok (.goto (-89), 3) := by decide +kernel
theorem dX12_closes_141 : decode cX12_closes 141 = .ok (.aload_n 0, 1) := by decide +kernel
theorem dX12_closes_142 : decode cX12_closes 142 = .ok (.iconst 3, 1) := by decide +kernel
theorem dX12_closes_143 : decode cX12_closes 143 = .ok (.iload_n 2, 1) := by decide +kernel
theorem dX12_closes_144 : decode cX12_closes 144 = .ok (.invokevirtual 778, 3) := by decide +kernel
theorem dX12_closes_147 : decode cX12_closes 147 = .ok (.return_, 1) := by decide +kernel
theorem dX12_stepPart_0 : decode cX12_stepPart 0 = .ok (.aload_n 0, 1) := by decide +kernel
theorem dX12_stepPart_1 : decode cX12_stepPart 1 = .ok (.getfield 233, 3) := by decide +kernel
theorem dX12_stepPart_4 : decode cX12_stepPart 4 = .ok (.aload_n 0, 1) := by decide +kernel
theorem dX12_stepPart_5 : decode cX12_stepPart 5 = .ok (.getfield 759, 3) := by decide +kernel
theorem dX12_stepPart_8 : decode cX12_stepPart 8 = .ok (.dup2, 1) := by decide +kernel
theorem dX12_stepPart_9 : decode cX12_stepPart 9 = .ok (.iaload, 1) := by decide +kernel
theorem dX12_stepPart_10 : decode cX12_stepPart 10 = .ok (.aload_n 0, 1) := by decide +kernel
theorem dX12_stepPart_11 : decode cX12_stepPart 11 = .ok (.getfield 87, 3) := by decide +kernel
theorem dX12_stepPart_14 : decode cX12_stepPart 14 = .ok (.iload_n 1, 1) := by decide +kernel
theorem dX12_stepPart_15 : decode cX12_stepPart 15 = .ok (.iaload, 1) := by decide +kernel
theorem dX12_stepPart_16 : decode cX12_stepPart 16 = .ok (.isub, 1) := by decide +kernel
theorem dX12_stepPart_17 : decode cX12_stepPart 17 = .ok (.iastore, 1) := by decide +kernel
theorem dX12_stepPart_18 : decode cX12_stepPart 18 = .ok (.sipush 9000, 3) := by decide +kernel
theorem dX12_stepPart_21 : decode cX12_stepPart 21 = .ok (.aload_n 0, 1) := by decide +kernel
theorem dX12_stepPart_22 : decode cX12_stepPart 22 = .ok (.getfield 759, 3) := by decide +kernel
theorem dX12_stepPart_25 : decode cX12_stepPart 25 = .ok (.imul, 1) := by decide +kernel
theorem dX12_stepPart_26 : decode cX12_stepPart 26 = .ok (.aload_n 0, 1) := by decide +kernel
theorem dX12_stepPart_27 : decode cX12_stepPart 27 = .ok (.getfield 233, 3) := by decide +kernel
theorem dX12_stepPart_30 : decode cX12_stepPart 30 = .ok (.aload_n 0, 1) := by decide +kernel
theorem dX12_stepPart_31 : decode cX12_stepPart 31 = .ok (.getfield 759, 3) := by decide +kernel
theorem dX12_stepPart_34 : decode cX12_stepPart 34 = .ok (.iaload, 1) := by decide +kernel
theorem dX12_stepPart_35 : decode cX12_stepPart 35 = .ok (.iadd, 1) := by decide +kernel
theorem dX12_stepPart_36 : decode cX12_stepPart 36 = .ok (.istore_n 2, 1) := by decide +kernel
theorem dX12_stepPart_37 : decode cX12_stepPart 37 = .ok (.iconst 0, 1) := by decide +kernel
theorem dX12_stepPart_38 : decode cX12_stepPart 38 = .ok (.istore_n 3, 1) := by decide +kernel
theorem dX12_stepPart_39 : decode cX12_stepPart 39 = .ok (.aload_n 0, 1) := by decide +kernel
theorem dX12_stepPart_40 : decode cX12_stepPart 40 = .ok (.getfield 63, 3) := by decide +kernel
theorem dX12_stepPart_43 : decode cX12_stepPart 43 = .ok (.iload_n 1, 1) := by decide +kernel
theorem dX12_stepPart_44 : decode cX12_stepPart 44 = .ok (.iaload, 1) := by decide +kernel
theorem dX12_stepPart_45 : decode cX12_stepPart 45 = .ok (.iconst 4, 1) := by decide +kernel
theorem dX12_stepPart_46 : decode cX12_stepPart 46 = .ok (.if_icmp .ne 22, 3) := by decide +kernel
theorem dX12_stepPart_49 : decode cX12_stepPart 49 = .ok (.aload_n 0, 1) := by decide +kernel
theorem dX12_stepPart_50 : decode cX12_stepPart 50 = .ok (.invokevirtual 857, 3) := by decide +kernel
theorem dX12_stepPart_53 : decode cX12_stepPart 53 = .ok (.iconst 4, 1) := by decide +kernel
theorem dX12_stepPart_54 : decode cX12_stepPart 54 = .ok (.if_icmp .eq 9, 3) := by decide +kernel
theorem dX12_stepPart_57 : decode cX12_stepPart 57 = .ok (.aload_n 0, 1) := by decide +kernel
theorem dX12_stepPart_58 : decode cX12_stepPart 58 = .ok (.iconst 3, 1) := by decide +kernel
theorem dX12_stepPart_59 : decode cX12_stepPart 59 = .ok (.invokevirtual 790, 3) := by decide +kernel
theorem dX12_stepPart_62 : decode cX12_stepPart 62 = .ok (.return_, 1) := by decide +kernel
theorem dX12_stepPart_63 : decode cX12_stepPart 63 = .ok (.aload_n 0, 1) := by decide +kernel
theorem dX12_stepPart_64 : decode cX12_stepPart 64 = .ok (.getfield 762, 3) := by decide +kernel
theorem dX12_stepPart_67 : decode cX12_stepPart 67 = .ok (.istore_n 3, 1) := by decide +kernel
theorem dX12_stepPart_68 : decode cX12_stepPart 68 = .ok (.aload_n 0, 1) := by decide +kernel
theorem dX12_stepPart_69 : decode cX12_stepPart 69 = .ok (.aload_n 0, 1) := by decide +kernel
theorem dX12_stepPart_70 : decode cX12_stepPart 70 = .ok (.getfield 759, 3) := by decide +kernel
theorem dX12_stepPart_73 : decode cX12_stepPart 73 = .ok (.iload_n 1, 1) := by decide +kernel
theorem dX12_stepPart_74 : decode cX12_stepPart 74 = .ok (.iload_n 3, 1) := by decide +kernel
theorem dX12_stepPart_75 : decode cX12_stepPart 75 = .ok (.invokevirtual 826, 3) := by decide +kernel
theorem dX12_stepPart_78 : decode cX12_stepPart 78 = .ok (.ifCond .eq 55, 3) := by decide +kernel
theorem dX12_stepPart_81 : decode cX12_stepPart 81 = .ok (.iconst 0, 1) := by decide +kernel
theorem dX12_stepPart_82 : decode cX12_stepPart 82 = .ok (.istore 4, 2) := by decide +kernel
theorem dX12_stepPart_84 : decode cX12_stepPart 84 = .ok (.iload 4, 2) := by decide +kernel
theorem dX12_stepPart_86 : decode cX12_stepPart 86 = .ok (.aload_n 0, 1) := by decide +kernel
theorem dX12_stepPart_87 : decode cX12_stepPart 87 = .ok (.getfield 87, 3) := by decide +kernel
theorem dX12_stepPart_90 : decode cX12_stepPart 90 = .ok (.iload_n 1, 1) := by decide +kernel
theorem dX12_stepPart_91 : decode cX12_stepPart 91 = .ok (.iaload, 1) := by decide +kernel
theorem dX12_stepPart_92 : decode cX12_stepPart 92 = .ok (.if_icmp .ge 41, 3) := by decide +kernel
theorem dX12_stepPart_95 : decode cX12_stepPart 95 = .ok (.aload_n 0, 1) := by decide +kernel
theorem dX12_stepPart_96 : decode cX12_stepPart 96 = .ok (.aload_n 0, 1) := by decide +kernel
theorem dX12_stepPart_97 : decode cX12_stepPart 97 = .ok (.getfield 759, 3) := by decide +kernel
theorem dX12_stepPart_100 : decode cX12_stepPart 100 = .ok (.aload_n 0, 1) := by decide +kernel
theorem dX12_stepPart_101 : decode cX12_stepPart 101 = .ok (.invokevirtual 775, 3) := by decide +kernel
theorem dX12_stepPart_104 : decode cX12_stepPart 104 = .ok (.iload 4, 2) := by decide +kernel
theorem dX12_stepPart_106 : decode cX12_stepPart 106 = .ok (.aload_n 0, 1) := by decide +kernel
theorem dX12_stepPart_107 : decode cX12_stepPart 107 = .ok (.getfield 237, 3) := by decide +kernel
theorem dX12_stepPart_110 : decode cX12_stepPart 110 = .ok (.iload_n 2, 1) := by decide +kernel
theorem dX12_stepPart_111 : decode cX12_stepPart 111 = .ok (.iload 4, 2) := by decide +kernel
theorem dX12_stepPart_113 : decode cX12_stepPart 113 = .ok (.iadd, 1) := by decide +kernel
theorem dX12_stepPart_114 : decode cX12_stepPart 114 = .ok (.iaload, 1) := by decide +kernel
theorem dX12_stepPart_115 : decode cX12_stepPart 115 = .ok (.aload_n 0, 1) := by decide +kernel
theorem dX12_stepPart_116 : decode cX12_stepPart 116 = .ok (.getfield 240, 3) := by decide +kernel
theorem dX12_stepPart_119 : decode cX12_stepPart 119 = .ok (.iload_n 2, 1) := by decide +kernel
theorem dX12_stepPart_120 : decode cX12_stepPart 120 = .ok (.iload 4, 2) := by decide +kernel
theorem dX12_stepPart_122 : decode cX12_stepPart 122 = .ok (.iadd, 1) := by decide +kernel
theorem dX12_stepPart_123 : decode cX12_stepPart 123 = .ok (.iaload, 1) := by decide +kernel
theorem dX12_stepPart_124 : decode cX12_stepPart 124 = .ok (.invokevirtual 805, 3) := by decide +kernel
theorem dX12_stepPart_127 : decode cX12_stepPart 127 = .ok (.iinc 4 1, 3) := by decide +kernel
theorem dX12_stepPart_130 : decode cX12_stepPart 130 = .ok (.goto (-46), 3) := by decide +kernel
theorem dX12_stepPart_133 : decode cX12_stepPart 133 = .ok (.return_, 1) := by decide +kernel
theorem dX12_asks__0 : decode cX12_asks_ 0 = .ok (.aload_n 0, 1) := by decide +kernel
theorem dX12_asks__1 : decode cX12_asks_ 1 = .ok (.getfield 265, 3) := by decide +kernel
theorem dX12_asks__4 : decode cX12_asks_ 4 = .ok (.iload_n 2, 1) := by decide +kernel
theorem dX12_asks__5 : decode cX12_asks_ 5 = .ok (.baload, 1) := by decide +kernel
theorem dX12_asks__6 : decode cX12_asks_ 6 = .ok (.istore_n 3, 1) := by decide +kernel
theorem dX12_asks__7 : decode cX12_asks_ 7 = .ok (.iconst (-1), 1) := by decide +kernel
theorem dX12_asks__8 : decode cX12_asks_ 8 = .ok (.istore 4, 2) := by decide +kernel
theorem dX12_asks__10 : decode cX12_asks_ 10 = .ok (.sipush 240, 3) := by decide +kernel
theorem dX12_asks__13 : decode cX12_asks_ 13 = .ok (.iload_n 2, 1) := by decide +kernel
theorem dX12_asks__14 : decode cX12_asks_ 14 = .ok (.iadd, 1) := by decide +kernel
theorem dX12_asks__15 : decode cX12_asks_ 15 = .ok (.istore 5, 2) := by decide +kernel
theorem dX12_asks__17 : decode cX12_asks_ 17 = .ok (.iload_n 3, 1) := by decide +kernel
theorem dX12_asks__18 : decode cX12_asks_ 18 = .ok (.ifCond .eq 50, 3) := by decide +kernel
theorem dX12_asks__21 : decode cX12_asks_ 21 = .ok (.aload_n 0, 1) := by decide +kernel
theorem dX12_asks__22 : decode cX12_asks_ 22 = .ok (.invokevirtual 857, 3) := by decide +kernel
theorem dX12_asks__25 : decode cX12_asks_ 25 = .ok (.ifCond .ne 18, 3) := by decide +kernel
theorem dX12_asks__28 : decode cX12_asks_ 28 = .ok (.aload_n 0, 1) := by decide +kernel
theorem dX12_asks__29 : decode cX12_asks_ 29 = .ok (.getfield 762, 3) := by decide +kernel
theorem dX12_asks__32 : decode cX12_asks_ 32 = .ok (.i2l, 1) := by decide +kernel
theorem dX12_asks__33 : decode cX12_asks_ 33 = .ok (.lconst 0, 1) := by decide +kernel
theorem dX12_asks__34 : decode cX12_asks_ 34 = .ok (.ldc2_w 905, 3) := by decide +kernel
theorem dX12_asks__37 : decode cX12_asks_ 37 = .ok (.invokestatic 274, 3) := by decide +kernel
theorem dX12_asks__40 : decode cX12_asks_ 40 = .ok (.ifCond .ne 9, 3) := by decide +kernel
theorem dX12_asks__43 : decode cX12_asks_ 43 = .ok (.aload_n 0, 1) := by decide +kernel
theorem dX12_asks__44 : decode cX12_asks_ 44 = .ok (.iconst 5, 1) := by decide +kernel
theorem dX12_asks__45 : decode cX12_asks_ 45 = .ok (.invokevirtual 790, 3) := by decide +kernel
theorem dX12_asks__48 : decode cX12_asks_ 48 = .ok (.return_, 1) := by decide +kernel
theorem dX12_asks__49 : decode cX12_asks_ 49 = .ok (.aload_n 0, 1) := by decide +kernel
theorem dX12_asks__50 : decode cX12_asks_ 50 = .ok (.getfield 762, 3) := by decide +kernel
theorem dX12_asks__53 : decode cX12_asks_ 53 = .ok (.istore 4, 2) := by decide +kernel
theorem dX12_asks__55 : decode cX12_asks_ 55 = .ok (.aload_n 0, 1) := by decide +kernel
theorem dX12_asks__56 : decode cX12_asks_ 56 = .ok (.iload 5, 2) := by decide +kernel
theorem dX12_asks__58 : decode cX12_asks_ 58 = .ok (.iload 4, 2) := by decide +kernel
theorem dX12_asks__60 : decode cX12_asks_ 60 = .ok (.invokevirtual 907, 3) := by decide +kernel
theorem dX12_asks__63 : decode cX12_asks_ 63 = .ok (.sipush 265, 3) := by decide +kernel
theorem dX12_asks__66 : decode cX12_asks_ 66 = .ok (.istore 5, 2) := by decide +kernel
theorem dX12_asks__68 : decode cX12_asks_ 68 = .ok (.aload_n 0, 1) := by decide +kernel
theorem dX12_asks__69 : decode cX12_asks_ 69 = .ok (.aload_n 0, 1) := by decide +kernel
theorem dX12_asks__70 : decode cX12_asks_ 70 = .ok (.getfield 100, 3) := by decide +kernel
theorem dX12_asks__73 : decode cX12_asks_ 73 = .ok (.iload_n 2, 1) := by decide +kernel
theorem dX12_asks__74 : decode cX12_asks_ 74 = .ok (.laload, 1) := by decide +kernel
theorem dX12_asks__75 : decode cX12_asks_ 75 = .ok (.iload 5, 2) := by decide +kernel
theorem dX12_asks__77 : decode cX12_asks_ 77 = .ok (.invokevirtual 737, 3) := by decide +kernel
theorem dX12_asks__80 : decode cX12_asks_ 80 = .ok (.istore 6, 2) := by decide +kernel
theorem dX12_asks__82 : decode cX12_asks_ 82 = .ok (.aload_n 0, 1) := by decide +kernel
theorem dX12_asks__83 : decode cX12_asks_ 83 = .ok (.getfield 796, 3) := by decide +kernel
theorem dX12_asks__86 : decode cX12_asks_ 86 = .ok (.ifCond .eq 21, 3) := by decide +kernel
theorem dX12_asks__89 : decode cX12_asks_ 89 = .ok (.aload_n 0, 1) := by decide +kernel
theorem dX12_asks__90 : decode cX12_asks_ 90 = .ok (.aload_n 0, 1) := by decide +kernel
theorem dX12_asks__91 : decode cX12_asks_ 91 = .ok (.getfield 220, 3) := by decide +kernel
theorem dX12_asks__94 : decode cX12_asks_ 94 = .ok (.aload_n 0, 1) := by decide +kernel
theorem dX12_asks__95 : decode cX12_asks_ 95 = .ok (.invokevirtual 775, 3) := by decide +kernel
theorem dX12_asks__98 : decode cX12_asks_ 98 = .ok (.iaload, 1) := by decide +kernel
theorem dX12_asks__99 : decode cX12_asks_ 99 = .ok (.iload 6, 2) := by decide +kernel
theorem dX12_asks__101 : decode cX12_asks_ 101 = .ok (.invokevirtual 910, 3) := by decide +kernel
theorem dX12_asks__104 : decode cX12_asks_ 104 = .ok (.goto 18, 3) := by decide +kernel
theorem dX12_asks__107 : decode cX12_asks_ 107 = .ok (.aload_n 0, 1) := by decide +kernel
theorem dX12_asks__108 : decode cX12_asks_ 108 = .ok (.aload_n 0, 1) := by decide +kernel
theorem dX12_asks__109 : decode cX12_asks_ 109 = .ok (.getfield 217, 3) := by decide +kernel
theorem dX12_asks__112 : decode cX12_asks_ 112 = .ok (.aload_n 0, 1) := by decide +kernel
theorem dX12_asks__113 : decode cX12_asks_ 113 = .ok (.invokevirtual 775, 3) := by decide +kernel
theorem dX12_asks__116 : decode cX12_asks_ 116 = .ok (.iaload, 1) := by decide +kernel
theorem dX12_asks__117 : decode cX12_asks_ 117 = .ok (.iload 6, 2) := by decide +kernel
theorem dX12_asks__119 : decode cX12_asks_ 119 = .ok (.invokevirtual 913, 3) := by decide +kernel
theorem dX12_asks__122 : decode cX12_asks_ 122 = .ok (.istore 7, 2) := by decide +kernel
theorem dX12_asks__124 : decode cX12_asks_ 124 = .ok (.iload_n 1, 1) := by decide +kernel
theorem dX12_asks__125 : decode cX12_asks_ 125 = .ok (.bipush 26, 2) := by decide +kernel
theorem dX12_asks__127 : decode cX12_asks_ 127 = .ok (.if_icmp .ne 19, 3) := by decide +kernel
theorem dX12_asks__130 : decode cX12_asks_ 130 = .ok (.aload_n 0, 1) := by decide +kernel
theorem dX12_asks__131 : decode cX12_asks_ 131 = .ok (.iconst 0, 1) := by decide +kernel
theorem dX12_asks__132 : decode cX12_asks_ 132 = .ok (.iload 7, 2) := by decide +kernel
theorem dX12_asks__134 : decode cX12_asks_ 134 = .ok (.ifCond .eq 7, 3) := by decide +kernel
theorem dX12_asks__137 : decode cX12_asks_ 137 = .ok (.iconst 1, 1) := by decide +kernel
theorem dX12_asks__138 : decode cX12_asks_ 138 = .ok (.goto 4, 3) := by decide +kernel
theorem dX12_asks__141 : decode cX12_asks_ 141 = .ok (.iconst 0, 1) := by decide +kernel
theorem dX12_asks__142 : decode cX12_asks_ 142 = .ok (.invokevirtual 778, 3) := by decide +kernel
theorem dX12_asks__145 : decode cX12_asks_ 145 = .ok (.return_, 1) := by decide +kernel
theorem dX12_asks__146 : decode cX12_asks_ 146 = .ok (.aload_n 0, 1) := by decide +kernel
theorem dX12_asks__147 : decode cX12_asks_ 147 = .ok (.iconst 1, 1) := by decide +kernel
theorem dX12_asks__148 : decode cX12_asks_ 148 = .ok (.iload 7, 2) := by decide +kernel
theorem dX12_asks__150 : decode cX12_asks_ 150 = .ok (.ifCond .eq 7, 3) := by decide +kernel
theorem dX12_asks__153 : decode cX12_asks_ 153 = .ok (.iconst 1, 1) := by decide +kernel
theorem dX12_asks__154 : decode cX12_asks_ 154 = .ok (.goto 4, 3) := by decide +kernel
theorem dX12_asks__157 : decode cX12_asks_ 157 = .ok (.iconst 0, 1) := by decide +kernel
theorem dX12_asks__158 : decode cX12_asks_ 158 = .ok (.iload_n 2, 1) := by decide +kernel
theorem dX12_asks__159 : decode cX12_asks_ 159 = .ok (.iload 4, 2) := by decide +kernel
theorem dX12_asks__161 : decode cX12_asks_ 161 = .ok (.invokevirtual 768, 3) := by decide +kernel
theorem dX12_asks__164 : decode cX12_asks_ 164 = .ok (.iload 7, 2) := by decide +kernel
theorem dX12_asks__166 : decode cX12_asks_ 166 = .ok (.ifCond .eq 12, 3) := by decide +kernel
theorem dX12_asks__169 : decode cX12_asks_ 169 = .ok (.aload_n 0, 1) := by decide +kernel
theorem dX12_asks__170 : decode cX12_asks_ 170 = .ok (.iconst 0, 1) := by decide +kernel
theorem dX12_asks__171 : decode cX12_asks_ 171 = .ok (.iconst 1, 1) := by decide +kernel
theorem dX12_asks__172 : decode cX12_asks_ 172 = .ok (.invokevirtual 778, 3) := by decide +kernel
theorem dX12_asks__175 : decode cX12_asks_ 175 = .ok (.goto 8, 3) := by decide +kernel
theorem dX12_asks__178 : decode cX12_asks_ 178 = .ok (.aload_n 0, 1) := by decide +kernel
theorem dX12_asks__179 : decode cX12_asks_ 179 = .ok (.iconst 1, 1) := by decide +kernel
theorem dX12_asks__180 : decode cX12_asks_ 180 = .ok (.invokevirtual 790, 3) := by decide +kernel
theorem dX12_asks__183 : decode cX12_asks_ 183 = .ok (.return_, 1) := by decide +kernel
theorem dX12_placeWith_0 : decode cX12_placeWith 0 = .ok (.aload_n 0, 1) := by decide +kernel
theorem dX12_placeWith_1 : decode cX12_placeWith 1 = .ok (.getfield 27, 3) := by decide +kernel
theorem dX12_placeWith_4 : decode cX12_placeWith 4 = .ok (.iload_n 1, 1) := by decide +kernel
theorem dX12_placeWith_5 : decode cX12_placeWith 5 = .ok (.iaload, 1) := by decide +kernel
theorem dX12_placeWith_6 : decode cX12_placeWith 6 = .ok (.istore_n 3, 1) := by decide +kernel
theorem dX12_placeWith_7 : decode cX12_placeWith 7 = .ok (.iconst 0, 1) := by decide +kernel
theorem dX12_placeWith_8 : decode cX12_placeWith 8 = .ok (.istore 4, 2) := by decide +kernel
theorem dX12_placeWith_10 : decode cX12_placeWith 10 = .ok (.iload 4, 2) := by decide +kernel
theorem dX12_placeWith_12 : decode cX12_placeWith 12 = .ok (.iload_n 3, 1) := by decide +kernel
theorem dX12_placeWith_13 : decode cX12_placeWith 13 = .ok (.if_icmp .ge 31, 3) := by decide +kernel
theorem dX12_placeWith_16 : decode cX12_placeWith 16 = .ok (.aload_n 0, 1) := by decide +kernel
theorem dX12_placeWith_17 : decode cX12_placeWith 17 = .ok (.getfield 24, 3) := by decide +kernel
theorem dX12_placeWith_20 : decode cX12_placeWith 20 = .ok (.sipush 1325, 3) := by decide +kernel
theorem dX12_placeWith_23 : decode cX12_placeWith 23 = .ok (.iload 4, 2) := by decide +kernel
theorem dX12_placeWith_25 : decode cX12_placeWith 25 = .ok (.iadd, 1) := by decide +kernel
theorem dX12_placeWith_26 : decode cX12_placeWith 26 = .ok (.aload_n 0, 1) := by decide +kernel
theorem dX12_placeWith_27 : decode cX12_placeWith 27 = .ok (.getfield 24, 3) := by decide +kernel
theorem dX12_placeWith_30 : decode cX12_placeWith 30 = .ok (.iconst 5, 1) := by decide +kernel
theorem dX12_placeWith_31 : decode cX12_placeWith 31 = .ok (.iload_n 1, 1) := by decide +kernel
theorem dX12_placeWith_32 : decode cX12_placeWith 32 = .ok (.imul, 1) := by decide +kernel
theorem dX12_placeWith_33 : decode cX12_placeWith 33 = .ok (.iload 4, 2) := by decide +kernel
theorem dX12_placeWith_35 : decode cX12_placeWith 35 = .ok (.iadd, 1) := by decide +kernel
theorem dX12_placeWith_36 : decode cX12_placeWith 36 = .ok (.laload, 1) := by decide +kernel
theorem dX12_placeWith_37 : decode cX12_placeWith 37 = .ok (.lastore, 1) := by decide +kernel
theorem dX12_placeWith_38 : decode cX12_placeWith 38 = .ok (.iinc 4 1, 3) := by decide +kernel
theorem dX12_placeWith_41 : decode cX12_placeWith 41 = .ok (.goto (-31), 3) := by decide +kernel
theorem dX12_placeWith_44 : decode cX12_placeWith 44 = .ok (.lconst 0, 1) := by decide +kernel
theorem dX12_placeWith_45 : decode cX12_placeWith 45 = .ok (.lstore 4, 2) := by decide +kernel
theorem dX12_placeWith_47 : decode cX12_placeWith 47 = .ok (.iload_n 2, 1) := by decide +kernel
theorem dX12_placeWith_48 : decode cX12_placeWith 48 = .ok (.bipush 99, 2) := by decide +kernel
theorem dX12_placeWith_50 : decode cX12_placeWith 50 = .ok (.if_icmp .le 8, 3) := by decide +kernel
theorem dX12_placeWith_53 : decode cX12_placeWith 53 = .ok (.bipush 100, 2) := by decide +kernel
theorem dX12_placeWith_55 : decode cX12_placeWith 55 = .ok (.goto 15, 3) := by decide +kernel
theorem dX12_placeWith_58 : decode cX12_placeWith 58 = .ok (.iload_n 2, 1) := by decide +kernel
theorem dX12_placeWith_59 : decode cX12_placeWith 59 = .ok (.bipush 9, 2) := by decide +kernel
theorem dX12_placeWith_61 : decode cX12_placeWith 61 = .ok (.if_icmp .le 8, 3) := by decide +kernel
theorem dX12_placeWith_64 : decode cX12_placeWith 64 = .ok (.bipush 10, 2) := by decide +kernel
theorem dX12_placeWith_66 : decode cX12_placeWith 66 = .ok (.goto 4, 3) := by decide +kernel
theorem dX12_placeWith_69 : decode cX12_placeWith 69 = .ok (.iconst 1, 1) := by decide +kernel
theorem dX12_placeWith_70 : decode cX12_placeWith 70 = .ok (.istore 6, 2) := by decide +kernel
theorem dX12_placeWith_72 : decode cX12_placeWith 72 = .ok (.iload 6, 2) := by decide +kernel
theorem dX12_placeWith_74 : decode cX12_placeWith 74 = .ok (.ifCond .le 36, 3) := by decide +kernel
theorem dX12_placeWith_77 : decode cX12_placeWith 77 = .ok (.ldc2_w 306, 3) := by decide +kernel
theorem dX12_placeWith_80 : decode cX12_placeWith 80 = .ok (.lload 4, 2) := by decide +kernel
theorem dX12_placeWith_82 : decode cX12_placeWith 82 = .ok (.lmul, 1) := by decide +kernel
theorem dX12_placeWith_83 : decode cX12_placeWith 83 = .ok (.bipush 48, 2) := by decide +kernel
theorem dX12_placeWith_85 : decode cX12_placeWith 85 = .ok (.iload_n 2, 1) := by decide +kernel
theorem dX12_placeWith_86 : decode cX12_placeWith 86 = .ok (.iload 6, 2) := by decide +kernel
theorem dX12_placeWith_88 : decode cX12_placeWith 88 = .ok (.idiv, 1) := by decide +kernel
theorem dX12_placeWith_89 : decode cX12_placeWith 89 = .ok (.bipush 10, 2) := by decide +kernel
theorem dX12_placeWith_91 : decode cX12_placeWith 91 = .ok (.irem, 1) := by decide +kernel
theorem dX12_placeWith_92 : decode cX12_placeWith 92 = .ok (.iadd, 1) := by decide +kernel
theorem dX12_placeWith_93 : decode cX12_placeWith 93 = .ok (.invokestatic 314, 3) := by decide +kernel
theorem dX12_placeWith_96 : decode cX12_placeWith 96 = .ok (.i2l, 1) := by decide +kernel
theorem dX12_placeWith_97 : decode cX12_placeWith 97 = .ok (.ladd, 1) := by decide +kernel
theorem dX12_placeWith_98 : decode cX12_placeWith 98 = .ok (.lstore 4, 2) := by decide +kernel
theorem dX12_placeWith_100 : decode cX12_placeWith 100 = .ok (.iload 6, 2) := by decide +kernel
theorem dX12_placeWith_102 : decode cX12_placeWith 102 = .ok (.bipush 10, 2) := by decide +kernel
theorem dX12_placeWith_104 : decode cX12_placeWith 104 = .ok (.idiv, 1) := by decide +kernel
theorem dX12_placeWith_105 : decode cX12_placeWith 105 = .ok (.istore 6, 2) := by decide +kernel
theorem dX12_placeWith_107 : decode cX12_placeWith 107 = .ok (.goto (-35), 3) := by decide +kernel
theorem dX12_placeWith_110 : decode cX12_placeWith 110 = .ok (.aload_n 0, 1) := by decide +kernel
theorem dX12_placeWith_111 : decode cX12_placeWith 111 = .ok (.getfield 24, 3) := by decide +kernel
theorem dX12_placeWith_114 : decode cX12_placeWith 114 = .ok (.sipush 1325, 3) := by decide +kernel
theorem dX12_placeWith_117 : decode cX12_placeWith 117 = .ok (.iload_n 3, 1) := by decide +kernel
theorem dX12_placeWith_118 : decode cX12_placeWith 118 = .ok (.iadd, 1) := by decide +kernel
theorem dX12_placeWith_119 : decode cX12_placeWith 119 = .ok (.lload 4, 2) := by decide +kernel
theorem dX12_placeWith_121 : decode cX12_placeWith 121 = .ok (.lastore, 1) := by decide +kernel
theorem dX12_placeWith_122 : decode cX12_placeWith 122 = .ok (.aload_n 0, 1) := by decide +kernel
theorem dX12_placeWith_123 : decode cX12_placeWith 123 = .ok (.getfield 27, 3) := by decide +kernel
theorem dX12_placeWith_126 : decode cX12_placeWith 126 = .ok (.sipush 265, 3) := by decide +kernel
theorem dX12_placeWith_129 : decode cX12_placeWith 129 = .ok (.iload_n 3, 1) := by decide +kernel
theorem dX12_placeWith_130 : decode cX12_placeWith 130 = .ok (.iconst 1, 1) := by decide +kernel
theorem dX12_placeWith_131 : decode cX12_placeWith 131 = .ok (.iadd, 1) := by decide +kernel
theorem dX12_placeWith_132 : decode cX12_placeWith 132 = .ok (.iastore, 1) := by decide +kernel
theorem dX12_placeWith_133 : decode cX12_placeWith 133 = .ok (.aload_n 0, 1) := by decide +kernel
theorem dX12_placeWith_134 : decode cX12_placeWith 134 = .ok (.getfield 30, 3) := by decide +kernel
theorem dX12_placeWith_137 : decode cX12_placeWith 137 = .ok (.sipush 265, 3) := by decide +kernel
theorem dX12_placeWith_140 : decode cX12_placeWith 140 = .ok (.iconst 0, 1) := by decide +kernel
theorem dX12_placeWith_141 : decode cX12_placeWith 141 = .ok (.iastore, 1) := by decide +kernel
theorem dX12_placeWith_142 : decode cX12_placeWith 142 = .ok (.return_, 1) := by decide +kernel
theorem dX12_stepWord_0 : decode cX12_stepWord 0 = .ok (.aload_n 0, 1) := by decide +kernel
theorem dX12_stepWord_1 : decode cX12_stepWord 1 = .ok (.invokevirtual 857, 3) := by decide +kernel
theorem dX12_stepWord_4 : decode cX12_stepWord 4 = .ok (.istore_n 2, 1) := by decide +kernel
theorem dX12_stepWord_5 : decode cX12_stepWord 5 = .ok (.aload_n 0, 1) := by decide +kernel
theorem dX12_stepWord_6 : decode cX12_stepWord 6 = .ok (.getfield 762, 3) := by decide +kernel
theorem dX12_stepWord_9 : decode cX12_stepWord 9 = .ok (.istore_n 3, 1) := by decide +kernel
theorem dX12_stepWord_10 : decode cX12_stepWord 10 = .ok (.iload_n 1, 1) := by decide +kernel
theorem dX12_stepWord_11 : decode cX12_stepWord 11 = .ok (.bipush 23, 2) := by decide +kernel
theorem dX12_stepWord_13 : decode cX12_stepWord 13 = .ok (.if_icmp .ne 10, 3) := by decide +kernel
theorem dX12_stepWord_16 : decode cX12_stepWord 16 = .ok (.aload_n 0, 1) := by decide +kernel
theorem dX12_stepWord_17 : decode cX12_stepWord 17 = .ok (.iload_n 2, 1) := by decide +kernel
theorem dX12_stepWord_18 : decode cX12_stepWord 18 = .ok (.iload_n 3, 1) := by decide +kernel
theorem dX12_stepWord_19 : decode cX12_stepWord 19 = .ok (.invokevirtual 916, 3) := by decide +kernel
theorem dX12_stepWord_22 : decode cX12_stepWord 22 = .ok (.return_, 1) := by decide +kernel
theorem dX12_stepWord_23 : decode cX12_stepWord 23 = .ok (.iload_n 2, 1) := by decide +kernel
theorem dX12_stepWord_24 : decode cX12_stepWord 24 = .ok (.ifCond .eq 9, 3) := by decide +kernel
theorem dX12_stepWord_27 : decode cX12_stepWord 27 = .ok (.aload_n 0, 1) := by decide +kernel
theorem dX12_stepWord_28 : decode cX12_stepWord 28 = .ok (.iconst 5, 1) := by decide +kernel
theorem dX12_stepWord_29 : decode cX12_stepWord 29 = .ok (.invokevirtual 790, 3) := by decide +kernel
theorem dX12_stepWord_32 : decode cX12_stepWord 32 = .ok (.return_, 1) := by decide +kernel
theorem dX12_stepWord_33 : decode cX12_stepWord 33 = .ok (.iload_n 1, 1) := by decide +kernel
theorem dX12_stepWord_34 : decode cX12_stepWord 34 = .ok (.bipush 21, 2) := by decide +kernel
theorem dX12_stepWord_36 : decode cX12_stepWord 36 = .ok (.if_icmp .ne 25, 3) := by decide +kernel
theorem dX12_stepWord_39 : decode cX12_stepWord 39 = .ok (.aload_n 0, 1) := by decide +kernel
theorem dX12_stepWord_40 : decode cX12_stepWord 40 = .ok (.iconst 0, 1) := by decide +kernel
theorem dX12_stepWord_41 : decode cX12_stepWord 41 = .ok (.iload_n 3, 1) := by decide +kernel
theorem dX12_stepWord_42 : decode cX12_stepWord 42 = .ok (.iconst (-1), 1) := by decide +kernel
theorem dX12_stepWord_43 : decode cX12_stepWord 43 = .ok (.iconst (-1), 1) := by decide +kernel
theorem dX12_stepWord_44 : decode cX12_stepWord 44 = .ok (.invokevirtual 768, 3) := by decide +kernel
theorem dX12_stepWord_47 : decode cX12_stepWord 47 = .ok (.aload_n 0, 1) := by decide +kernel
theorem dX12_stepWord_48 : decode cX12_stepWord 48 = .ok (.iconst 0, 1) := by decide +kernel
theorem dX12_stepWord_49 : decode cX12_stepWord 49 = .ok (.iload_n 3, 1) := by decide +kernel
theorem dX12_stepWord_50 : decode cX12_stepWord 50 = .ok (.invokevirtual 778, 3) := by decide +kernel
theorem dX12_stepWord_53 : decode cX12_stepWord 53 = .ok (.aload_n 0, 1) := by decide +kernel
theorem dX12_stepWord_54 : decode cX12_stepWord 54 = .ok (.iconst 0, 1) := by decide +kernel
theorem dX12_stepWord_55 : decode cX12_stepWord 55 = .ok (.putfield 772, 3) := by decide +kernel
theorem dX12_stepWord_58 : decode cX12_stepWord 58 = .ok (.goto 82, 3) := by decide +kernel
theorem dX12_stepWord_61 : decode cX12_stepWord 61 = .ok (.iload_n 1, 1) := by decide +kernel
theorem dX12_stepWord_62 : decode cX12_stepWord 62 = .ok (.bipush 22, 2) := by decide +kernel
theorem dX12_stepWord_64 : decode cX12_stepWord 64 = .ok (.if_icmp .ne 11, 3) := by decide +kernel
theorem dX12_stepWord_67 : decode cX12_stepWord 67 = .ok (.aload_n 0, 1) := by decide +kernel
theorem dX12_stepWord_68 : decode cX12_stepWord 68 = .ok (.iload_n 3, 1) := by decide +kernel
theorem dX12_stepWord_69 : decode cX12_stepWord 69 = .ok (.invokevirtual 790, 3) := by decide +kernel
theorem dX12_stepWord_72 : decode cX12_stepWord 72 = .ok (.goto 68, 3) := by decide +kernel
theorem dX12_stepWord_75 : decode cX12_stepWord 75 = .ok (.iload_n 3, 1) := by decide +kernel
theorem dX12_stepWord_76 : decode cX12_stepWord 76 = .ok (.i2l, 1) := by decide +kernel
theorem dX12_stepWord_77 : decode cX12_stepWord 77 = .ok (.lconst 0, 1) := by decide +kernel
theorem dX12_stepWord_78 : decode cX12_stepWord 78 = .ok (.aload_n 0, 1) := by decide +kernel
theorem dX12_stepWord_79 : decode cX12_stepWord 79 = .ok (.getfield 820, 3) := by decide +kernel
theorem dX12_stepWord_82 : decode cX12_stepWord 82 = .ok (.iconst 1, 1) := by decide +kernel
theorem dX12_stepWord_83 : decode cX12_stepWord 83 = .ok (.isub, 1) := by decide +kernel
theorem dX12_stepWord_84 : decode cX12_stepWord 84 = .ok (.i2l, 1) := by decide +kernel
theorem dX12_stepWord_85 : decode cX12_stepWord 85 = .ok (.invokestatic 274, 3) := by decide +kernel
theorem dX12_stepWord_88 : decode cX12_stepWord 88 = .ok (.ifCond .eq 11, 3) := by decide +kernel
theorem dX12_stepWord_91 : decode cX12_stepWord 91 = .ok (.iload_n 3, 1) := by decide +kernel
theorem dX12_stepWord_92 : decode cX12_stepWord 92 = .ok (.aload_n 0, 1) := by decide +kernel
theorem dX12_stepWord_93 : decode cX12_stepWord 93 = .ok (.getfield 759, 3) := by decide +kernel
theorem dX12_stepWord_96 : decode cX12_stepWord 96 = .ok (.if_icmp .ne 12, 3) := by decide +kernel
theorem dX12_stepWord_99 : decode cX12_stepWord 99 = .ok (.aload_n 0, 1) := by decide +kernel
theorem dX12_stepWord_100 : decode cX12_stepWord 100 = .ok (.bipush 8, 2) := by decide +kernel
theorem dX12_stepWord_102 : decode cX12_stepWord 102 = .ok (.invokevirtual 790, 3) := by decide +kernel
theorem dX12_stepWord_105 : decode cX12_stepWord 105 = .ok (.goto 35, 3) := by decide +kernel
theorem dX12_stepWord_108 : decode cX12_stepWord 108 = .ok (.aload_n 0, 1) := by decide +kernel
theorem dX12_stepWord_109 : decode cX12_stepWord 109 = .ok (.getfield 190, 3) := by decide +kernel
theorem dX12_stepWord_112 : decode cX12_stepWord 112 = .ok (.iload_n 3, 1) := by decide +kernel
theorem dX12_stepWord_113 : decode cX12_stepWord 113 = .ok (.iaload, 1) := by decide +kernel
theorem dX12_stepWord_114 : decode cX12_stepWord 114 = .ok (.ifCond .eq 11, 3) := by decide +kernel
theorem dX12_stepWord_117 : decode cX12_stepWord 117 = .ok (.aload_n 0, 1) := by decide +kernel
theorem dX12_stepWord_118 : decode cX12_stepWord 118 = .ok (.iload_n 3, 1) := by decide +kernel
theorem dX12_stepWord_119 : decode cX12_stepWord 119 = .ok (.invokevirtual 851, 3) := by decide +kernel
theorem dX12_stepWord_122 : decode cX12_stepWord 122 = .ok (.goto 18, 3) := by decide +kernel
theorem dX12_stepWord_125 : decode cX12_stepWord 125 = .ok (.aload_n 0, 1) := by decide +kernel
theorem dX12_stepWord_126 : decode cX12_stepWord 126 = .ok (.getfield 193, 3) := by decide +kernel
theorem dX12_stepWord_129 : decode cX12_stepWord 129 = .ok (.aload_n 0, 1) := by decide +kernel
theorem dX12_stepWord_130 : decode cX12_stepWord 130 = .ok (.getfield 759, 3) := by decide +kernel
theorem dX12_stepWord_133 : decode cX12_stepWord 133 = .ok (.iload_n 3, 1) := by decide +kernel
theorem dX12_stepWord_134 : decode cX12_stepWord 134 = .ok (.iastore, 1) := by decide +kernel
theorem dX12_stepWord_135 : decode cX12_stepWord 135 = .ok (.aload_n 0, 1) := by decide +kernel
theorem dX12_stepWord_136 : decode cX12_stepWord 136 = .ok (.iconst 0, 1) := by decide +kernel
theorem dX12_stepWord_137 : decode cX12_stepWord 137 = .ok (.putfield 772, 3) := by decide +kernel
theorem dX12_stepWord_140 : decode cX12_stepWord 140 = .ok (.return_, 1) := by decide +kernel
theorem dX12_spawns_0 : decode cX12_spawns 0 = .ok (.iload_n 1, 1) := by decide +kernel
theorem dX12_spawns_1 : decode cX12_spawns 1 = .ok (.iconst 3, 1) := by decide +kernel
theorem dX12_spawns_2 : decode cX12_spawns 2 = .ok (.if_icmp .eq 11, 3) := by decide +kernel
theorem dX12_spawns_5 : decode cX12_spawns 5 = .ok (.aload_n 0, 1) := by decide +kernel
theorem dX12_spawns_6 : decode cX12_spawns 6 = .ok (.iconst 3, 1) := by decide +kernel
theorem dX12_spawns_7 : decode cX12_spawns 7 = .ok (.invokevirtual 790, 3) := by decide +kernel
theorem dX12_spawns_10 : decode cX12_spawns 10 = .ok (.goto 104, 3) := by decide +kernel
theorem dX12_spawns_13 : decode cX12_spawns 13 = .ok (.aload_n 0, 1) := by decide +kernel
theorem dX12_spawns_14 : decode cX12_spawns 14 = .ok (.getfield 72, 3) := by decide +kernel
theorem dX12_spawns_17 : decode cX12_spawns 17 = .ok (.aload_n 0, 1) := by decide +kernel
theorem dX12_spawns_18 : decode cX12_spawns 18 = .ok (.getfield 168, 3) := by decide +kernel
theorem dX12_spawns_21 : decode cX12_spawns 21 = .ok (.iload_n 2, 1) := by decide +kernel
theorem dX12_spawns_22 : decode cX12_spawns 22 = .ok (.iaload, 1) := by decide +kernel
theorem dX12_spawns_23 : decode cX12_spawns 23 = .ok (.iaload, 1) := by decide +kernel
theorem dX12_spawns_24 : decode cX12_spawns 24 = .ok (.ifCond .eq 11, 3) := by decide +kernel
theorem dX12_spawns_27 : decode cX12_spawns 27 = .ok (.aload_n 0, 1) := by decide +kernel
theorem dX12_spawns_28 : decode cX12_spawns 28 = .ok (.iconst 4, 1) := by decide +kernel
theorem dX12_spawns_29 : decode cX12_spawns 29 = .ok (.invokevirtual 790, 3) := by decide +kernel
theorem dX12_spawns_32 : decode cX12_spawns 32 = .ok (.goto 82, 3) := by decide +kernel
theorem dX12_spawns_35 : decode cX12_spawns 35 = .ok (.aload_n 0, 1) := by decide +kernel
theorem dX12_spawns_36 : decode cX12_spawns 36 = .ok (.getfield 820, 3) := by decide +kernel
theorem dX12_spawns_39 : decode cX12_spawns 39 = .ok (.bipush 8, 2) := by decide +kernel
theorem dX12_spawns_41 : decode cX12_spawns 41 = .ok (.if_icmp .ne 12, 3) := by decide +kernel
theorem dX12_spawns_44 : decode cX12_spawns 44 = .ok (.aload_n 0, 1) := by decide +kernel
theorem dX12_spawns_45 : decode cX12_spawns 45 = .ok (.bipush 7, 2) := by decide +kernel
theorem dX12_spawns_47 : decode cX12_spawns 47 = .ok (.invokevirtual 790, 3) := by decide +kernel
theorem dX12_spawns_50 : decode cX12_spawns 50 = .ok (.goto 64, 3) := by decide +kernel
theorem dX12_spawns_53 : decode cX12_spawns 53 = .ok (.aload_n 0, 1) := by decide +kernel
theorem dX12_spawns_54 : decode cX12_spawns 54 = .ok (.getfield 781, 3) := by decide +kernel
theorem dX12_spawns_57 : decode cX12_spawns 57 = .ok (.aload_n 0, 1) := by decide +kernel
theorem dX12_spawns_58 : decode cX12_spawns 58 = .ok (.getfield 784, 3) := by decide +kernel
theorem dX12_spawns_61 : decode cX12_spawns 61 = .ok (.if_icmp .ne 16, 3) := by decide +kernel
theorem dX12_spawns_64 : decode cX12_spawns 64 = .ok (.aload_n 0, 1) := by decide +kernel
theorem dX12_spawns_65 : decode cX12_spawns 65 = .ok (.iconst 1, 1) := by decide +kernel
theorem dX12_spawns_66 : decode cX12_spawns 66 = .ok (.putfield 787, 3) := by decide +kernel
theorem dX12_spawns_69 : decode cX12_spawns 69 = .ok (.aload_n 0, 1) := by decide +kernel
theorem dX12_spawns_70 : decode cX12_spawns 70 = .ok (.iconst 0, 1) := by decide +kernel
