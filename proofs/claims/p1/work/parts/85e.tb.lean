set_option maxRecDepth 100000 in
theorem tk_k_isKey_no : ∀ w ∈ lk_k_isKey_no, w ∈ lw_tbl := mem_r [2587, 2589, 114, 266, 2161] (by decide +kernel)
set_option maxRecDepth 100000 in
theorem tb_v_k_isKey_no : ∀ w ∈ v_k_isKey_no, w ∈ lw_tbl := fun w h => (List.mem_cons.mp h).elim (fun e => by rw [e]; exact mi 2652 (by decide +kernel)) (fun h => (List.mem_append.mp h).elim (tk_k_isKey_no w) (fun h => (List.mem_append.mp h).elim (tb_v_k_isFine1 w) (fun h => (List.mem_append.mp h).elim (tb_wsX120 w) (fun h => nomatch h))))
set_option maxRecDepth 100000 in
theorem tk_k_failsAt : ∀ w ∈ lk_k_failsAt, w ∈ lw_tbl := mem_r [2159, 2160, 2161] (by decide +kernel)
set_option maxRecDepth 100000 in
theorem tb_v_k_failsAt : ∀ w ∈ v_k_failsAt, w ∈ lw_tbl := fun w h => (List.mem_cons.mp h).elim (fun e => by rw [e]; exact mi 2620 (by decide +kernel)) (fun h => (List.mem_append.mp h).elim (tk_k_failsAt w) (fun h => (List.mem_append.mp h).elim (tb_wsX120 w) (fun h => nomatch h)))
set_option maxRecDepth 100000 in
theorem tk_k_misfit_end : ∀ w ∈ lk_k_misfit_end, w ∈ lw_tbl := mem_r [2161, 2157, 2617, 2619, 118, 266] (by decide +kernel)
set_option maxRecDepth 100000 in
theorem tb_v_k_misfit_end : ∀ w ∈ v_k_misfit_end, w ∈ lw_tbl := fun w h => (List.mem_cons.mp h).elim (fun e => by rw [e]; exact mi 2664 (by decide +kernel)) (fun h => (List.mem_append.mp h).elim (tk_k_misfit_end w) (fun h => (List.mem_append.mp h).elim (tb_wsX120 w) (fun h => (List.mem_append.mp h).elim (tb_v_k_failsAt w) (fun h => nomatch h))))
set_option maxRecDepth 100000 in
theorem tk_k_key_end : ∀ w ∈ lk_k_key_end, w ∈ lw_tbl := mem_r [2649, 2651, 123, 266, 2587, 2589, 114, 2661, 2663, 126] (by decide +kernel)
set_option maxRecDepth 100000 in
theorem tb_v_k_key_end : ∀ w ∈ v_k_key_end, w ∈ lw_tbl := fun w h => (List.mem_cons.mp h).elim (fun e => by rw [e]; exact mi 2692 (by decide +kernel)) (fun h => (List.mem_append.mp h).elim (tk_k_key_end w) (fun h => (List.mem_append.mp h).elim (tb_v_k_isKey_no w) (fun h => (List.mem_append.mp h).elim (tb_v_k_isFine1 w) (fun h => (List.mem_append.mp h).elim (tb_v_k_misfit_end w) (fun h => nomatch h)))))
set_option maxRecDepth 100000 in
theorem tk_k_isFine0 : ∀ w ∈ lk_k_isFine0, w ∈ lw_tbl := mem_r [2159] (by decide +kernel)
set_option maxRecDepth 100000 in
theorem tb_v_k_isFine0 : ∀ w ∈ v_k_isFine0, w ∈ lw_tbl := fun w h => (List.mem_cons.mp h).elim (fun e => by rw [e]; exact mi 2590 (by decide +kernel)) (fun h => (List.mem_append.mp h).elim (tk_k_isFine0 w) (fun h => (List.mem_append.mp h).elim (tb_wsX120 w) (fun h => nomatch h)))
set_option maxRecDepth 100000 in
theorem tk_k_isName_no : ∀ w ∈ lk_k_isName_no, w ∈ lw_tbl := mem_r [2587, 2589, 114, 266] (by decide +kernel)
set_option maxRecDepth 100000 in
theorem tb_v_k_isName_no : ∀ w ∈ v_k_isName_no, w ∈ lw_tbl := fun w h => (List.mem_cons.mp h).elim (fun e => by rw [e]; exact mi 2684 (by decide +kernel)) (fun h => (List.mem_append.mp h).elim (tk_k_isName_no w) (fun h => (List.mem_append.mp h).elim (tb_v_k_isFine0 w) (fun h => nomatch h)))
set_option maxRecDepth 100000 in
theorem tk_k_readModule_end : ∀ w ∈ lk_k_readModule_end, w ∈ lw_tbl := mem_r [2689, 2691, 133, 266, 2681, 2683, 131] (by decide +kernel)
set_option maxRecDepth 100000 in
theorem tb_v_k_readModule_end : ∀ w ∈ v_k_readModule_end, w ∈ lw_tbl := fun w h => (List.mem_cons.mp h).elim (fun e => by rw [e]; exact mi 2688 (by decide +kernel)) (fun h => (List.mem_append.mp h).elim (tk_k_readModule_end w) (fun h => (List.mem_append.mp h).elim (tb_v_k_key_end w) (fun h => (List.mem_append.mp h).elim (tb_v_k_isName_no w) (fun h => nomatch h))))
set_option maxRecDepth 100000 in
theorem tk_k_readAll_end : ∀ w ∈ lk_k_readAll_end, w ∈ lw_tbl := mem_r [2649, 2651, 123, 266, 2685, 2687, 132, 2587, 2589, 114] (by decide +kernel)
set_option maxRecDepth 100000 in
theorem tb_v_k_readAll_end : ∀ w ∈ v_k_readAll_end, w ∈ lw_tbl := fun w h => (List.mem_cons.mp h).elim (fun e => by rw [e]; exact mi 2648 (by decide +kernel)) (fun h => (List.mem_append.mp h).elim (tk_k_readAll_end w) (fun h => (List.mem_append.mp h).elim (tb_v_k_isKey_no w) (fun h => (List.mem_append.mp h).elim (tb_v_k_readModule_end w) (fun h => (List.mem_append.mp h).elim (tb_v_k_isFine0 w) (fun h => nomatch h)))))
set_option maxRecDepth 100000 in
theorem tk_f_Mprogram : ∀ w ∈ lk_f_Mprogram, w ∈ lw_tbl := mem_r [2155, 2157, 2238, 2158, 2159, 2160, 2173, 2174, 2177, 2187, 2200, 2202, 2208, 2210, 2212, 2214, 2215, 2217, 2216, 2169, 2163, 2583, 2585, 113, 266, 2645, 2647, 122, 2587, 2589, 114, 2153] (by decide +kernel)
set_option maxRecDepth 100000 in
theorem tb_v_f_Mprogram : ∀ w ∈ v_f_Mprogram, w ∈ lw_tbl := fun w h => (List.mem_cons.mp h).elim (fun e => by rw [e]; exact mi 2582 (by decide +kernel)) (fun h => (List.mem_append.mp h).elim (tk_f_Mprogram w) (fun h => (List.mem_append.mp h).elim (tb_wsX120 w) (fun h => (List.mem_append.mp h).elim (tb_v_k_next_end w) (fun h => (List.mem_append.mp h).elim (tb_v_k_readAll_end w) (fun h => (List.mem_append.mp h).elim (tb_v_k_isFine0 w) (fun h => nomatch h))))))
set_option maxRecDepth 100000 in
theorem tk_f_Mrun : ∀ w ∈ lk_f_Mrun, w ∈ lw_tbl := mem_r [2158, 2153] (by decide +kernel)
set_option maxRecDepth 100000 in
theorem tb_v_f_Mrun : ∀ w ∈ v_f_Mrun, w ∈ lw_tbl := fun w h => (List.mem_cons.mp h).elim (fun e => by rw [e]; exact mi 3046 (by decide +kernel)) (fun h => (List.mem_append.mp h).elim (tk_f_Mrun w) (fun h => (List.mem_append.mp h).elim (tb_wsX120 w) (fun h => nomatch h)))
set_option maxRecDepth 100000 in
theorem tk_k_thrown : ∀ w ∈ lk_k_thrown, w ∈ lw_tbl := mem_r [2153] (by decide +kernel)
set_option maxRecDepth 100000 in
theorem tb_v_k_thrown : ∀ w ∈ v_k_thrown, w ∈ lw_tbl := fun w h => (List.mem_cons.mp h).elim (fun e => by rw [e]; exact mi 2567 (by decide +kernel)) (fun h => (List.mem_append.mp h).elim (tk_k_thrown w) (fun h => (List.mem_append.mp h).elim (tb_wsX120 w) (fun h => nomatch h)))
set_option maxRecDepth 100000 in
theorem tk_k_Model_init : ∀ w ∈ lk_k_Model_init, w ∈ lw_tbl := mem_r [2147, 282, 283, 488, 2154, 2156, 2160, 310, 2166, 2170, 2171, 2172, 2175, 2176, 2178, 2179, 2180, 2181, 2182, 2183, 2184, 2185, 2188, 2189, 2190, 2191, 2192, 2193, 2194, 2195, 2196, 2197, 2198, 489, 2199, 2201, 2203, 2204, 2205, 2206, 2207, 2209, 2211, 2213, 2218, 2219, 2220, 2221, 2222, 2223, 2224, 2148, 309, 2226, 2228, 2229, 2232, 2235, 2244, 2248, 2249, 2149, 2251, 2252, 2254, 2255, 2256, 2258, 2259, 2260, 2261, 2262, 2263, 2264, 2265, 2266, 2267, 2268, 2269, 2150, 2270, 2271, 2272, 2151, 2273, 2274, 2275, 2276, 2277, 2278, 2283, 2152, 2284, 2285, 2288] (by decide +kernel)
set_option maxRecDepth 100000 in
theorem tb_code_X12_init : Cond.code yX12_init cX12_init 1 none ∈ lw_tbl := List.mem_append_right _ (show Cond.code yX12_init cX12_init 1 none ∈ tables_1 from (List.mem_append_right _ (List.mem_append_right _ (List.mem_append_right _ (List.mem_append_right _ (List.mem_append_right _ (List.mem_append_right _ (List.mem_append_right _ (List.mem_append_left _ (List.mem_of_getElem? (i := 217) rfl))))))))))
set_option maxRecDepth 100000 in
theorem tb_v_k_Model_init : ∀ w ∈ v_k_Model_init, w ∈ lw_tbl := fun w h => (List.mem_cons.mp h).elim (fun e => by rw [e]; exact tb_code_X12_init) (fun h => (List.mem_append.mp h).elim (tk_k_Model_init w) (fun h => (List.mem_append.mp h).elim (tb_wsX120 w) (fun h => nomatch h)))
set_option maxRecDepth 100000 in
theorem tb_wsX11_init : ∀ w ∈ wsX11_init, w ∈ lw_tbl := mem_r [280, 281, 282, 283, 309, 898, 284, 285, 251, 900, 402, 403, 257, 901, 490, 491, 259, 902, 649, 650, 261, 903, 703, 704, 262, 904, 726, 727, 263, 905, 896, 413, 258, 906, 907, 286, 287, 288, 289, 310, 363, 290, 291, 252, 364, 365, 366, 292, 293, 294, 295, 296, 312, 313, 314, 253, 315, 3220, 316, 317, 318, 319, 320, 3221, 322, 323, 324, 325, 326, 327, 328, 329, 330, 331, 254, 332, 333, 334, 335, 336, 338, 339, 255, 340, 341, 342, 256, 343, 344, 345, 346, 347, 348, 349, 350, 351, 352, 353, 354, 356, 358, 360, 361, 362, 404, 405, 406, 407, 436, 437, 488, 438, 439, 440, 441, 442, 489, 443, 444, 411, 445, 408, 409, 410, 414, 415, 416, 417, 422, 492, 493, 494, 495, 595, 496, 596, 498, 260, 601, 602, 603, 604, 605, 606, 607, 611, 613, 615, 499, 500, 501, 502, 545, 503, 552, 553, 556, 504, 651, 652, 653, 654, 661, 662, 663, 655, 664, 665, 666, 668, 669, 674, 656, 657, 658, 659, 660, 705, 706, 707, 708, 709, 710, 728, 729, 730, 731, 834, 835, 732, 733, 264, 836, 759, 837, 761, 265, 852, 832, 838, 839, 840, 841, 734, 735, 736, 737, 738, 740, 741, 742, 743, 744, 739, 762, 763, 764, 765, 768, 769, 770, 771, 772, 773, 766, 774, 767, 833, 897, 910, 912, 914, 916, 918, 920, 922, 924, 926, 928, 930, 932, 379, 381, 383, 385, 387, 389, 391, 393, 395, 397, 399, 459, 461, 463, 465, 467, 469, 471, 473, 475, 477, 479, 481, 483, 485, 616, 618, 620, 622, 624, 626, 628, 630, 632, 634, 636, 638, 640, 642, 644, 646, 676, 678, 680, 682, 684, 686, 688, 690, 692, 694, 696, 698, 700, 715, 717, 719, 721, 723, 855, 857, 859, 861, 863, 865, 867, 869, 871, 873, 875, 877, 879, 881, 883, 885, 887, 889, 891, 893, 427, 429, 431, 433, 304, 306, 558, 560, 562, 564, 566, 568, 570, 572, 574, 576, 578, 580, 582, 584, 586, 588, 590, 592, 746, 748, 750, 752, 754, 756, 795, 797, 799, 801, 803, 805, 807, 809, 811, 813, 815, 817, 819, 821, 823, 825, 827, 829] (by decide +kernel)
set_option maxRecDepth 100000 in
theorem tb_v_Lprogram : ∀ w ∈ v_Lprogram, w ∈ lw_tbl := fun w h => (List.mem_cons.mp h).elim (fun e => by rw [e]; exact mi 1322 (by decide +kernel)) (fun h => (List.mem_append.mp h).elim ((mem_r [1324, 1325, 1326, 250, 1323] (by decide +kernel) : ∀ w ∈ lk_Lp, w ∈ lw_tbl) w) (fun h => (List.mem_append.mp h).elim (tb_v_x_program w) (fun h => nomatch h)))
set_option maxRecDepth 100000 in
theorem tb_v_Lrun : ∀ w ∈ v_Lrun, w ∈ lw_tbl := fun w h => (List.mem_cons.mp h).elim (fun e => by rw [e]; exact mi 1793 (by decide +kernel)) (fun h => (List.mem_append.mp h).elim ((mem_r [1795, 1796, 1797, 250, 1794] (by decide +kernel) : ∀ w ∈ lk_Lr, w ∈ lw_tbl) w) (fun h => (List.mem_append.mp h).elim (tb_v_x_run w) (fun h => nomatch h)))
theorem gd_wsX11_init : ∀ w ∈ wsX11_init, gdW w := gdW_of (by decide +kernel)
