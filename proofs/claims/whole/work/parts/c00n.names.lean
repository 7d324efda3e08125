theorem dL_law_251 : decode cL_law 251 = .ok (.aload_n 3, 1) := by decide +kernel
theorem dL_law_252 : decode cL_law 252 = .ok (.iconst 0, 1) := by decide +kernel
theorem dL_law_253 : decode cL_law 253 = .ok (.laload, 1) := by decide +kernel
theorem dL_law_254 : decode cL_law 254 = .ok (.iload 6, 2) := by decide +kernel
theorem dL_law_256 : decode cL_law 256 = .ok (.i2l, 1) := by decide +kernel
theorem dL_law_257 : decode cL_law 257 = .ok (.lcmp, 1) := by decide +kernel
theorem dL_law_258 : decode cL_law 258 = .ok (.ifCond .eq 5, 3) := by decide +kernel
theorem dL_law_652 : decode cL_law 652 = .ok (.aload_n 3, 1) := by decide +kernel
theorem dL_law_653 : decode cL_law 653 = .ok (.iconst 0, 1) := by decide +kernel
theorem dL_law_654 : decode cL_law 654 = .ok (.laload, 1) := by decide +kernel
theorem dL_law_655 : decode cL_law 655 = .ok (.iload 6, 2) := by decide +kernel
theorem dL_law_657 : decode cL_law 657 = .ok (.i2l, 1) := by decide +kernel
theorem dL_law_658 : decode cL_law 658 = .ok (.lcmp, 1) := by decide +kernel
theorem dL_law_659 : decode cL_law 659 = .ok (.ifCond .eq 5, 3) := by decide +kernel
