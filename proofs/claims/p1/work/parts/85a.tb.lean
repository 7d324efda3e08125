set_option maxRecDepth 100000 in
theorem tk_k_putBytes : ∀ w ∈ lk_k_putBytes, w ∈ lw_tbl := mem_r [899, 898] (by decide +kernel)
set_option maxRecDepth 100000 in
theorem tb_v_k_putBytes : ∀ w ∈ v_k_putBytes, w ∈ lw_tbl := fun w h => (List.mem_cons.mp h).elim (fun e => by rw [e]; exact mi 942 (by decide +kernel)) (fun h => (List.mem_append.mp h).elim (tk_k_putBytes w) (fun h => (List.mem_append.mp h).elim (tb_wsX110 w) (fun h => nomatch h)))
set_option maxRecDepth 100000 in
theorem tk_f_feed : ∀ w ∈ lk_f_feed, w ∈ lw_tbl := mem_r [899, 939, 941, 0, 250] (by decide +kernel)
set_option maxRecDepth 100000 in
theorem tb_v_f_feed : ∀ w ∈ v_f_feed, w ∈ lw_tbl := fun w h => (List.mem_cons.mp h).elim (fun e => by rw [e]; exact mi 938 (by decide +kernel)) (fun h => (List.mem_append.mp h).elim (tk_f_feed w) (fun h => (List.mem_append.mp h).elim (tb_wsX110 w) (fun h => (List.mem_append.mp h).elim (tb_v_k_putBytes w) (fun h => nomatch h))))
set_option maxRecDepth 100000 in
theorem tk_f_Mfeed : ∀ w ∈ lk_f_Mfeed, w ∈ lw_tbl := mem_r [2153, 2155, 2154] (by decide +kernel)
set_option maxRecDepth 100000 in
theorem tb_v_f_Mfeed : ∀ w ∈ v_f_Mfeed, w ∈ lw_tbl := fun w h => (List.mem_cons.mp h).elim (fun e => by rw [e]; exact mi 2571 (by decide +kernel)) (fun h => (List.mem_append.mp h).elim (tk_f_Mfeed w) (fun h => (List.mem_append.mp h).elim (tb_wsX120 w) (fun h => nomatch h)))
set_option maxRecDepth 100000 in
theorem tk_f_end : ∀ w ∈ lk_f_end, w ∈ lw_tbl := mem_r [899] (by decide +kernel)
set_option maxRecDepth 100000 in
theorem tb_v_f_end : ∀ w ∈ v_f_end, w ∈ lw_tbl := fun w h => (List.mem_cons.mp h).elim (fun e => by rw [e]; exact mi 946 (by decide +kernel)) (fun h => (List.mem_append.mp h).elim (tk_f_end w) (fun h => (List.mem_append.mp h).elim (tb_wsX110 w) (fun h => nomatch h)))
set_option maxRecDepth 100000 in
theorem tk_k_in : ∀ w ∈ lk_k_in, w ∈ lw_tbl := mem_r [] (by decide +kernel)
set_option maxRecDepth 100000 in
theorem tb_v_k_in : ∀ w ∈ v_k_in, w ∈ lw_tbl := fun w h => (List.mem_cons.mp h).elim (fun e => by rw [e]; exact mi 2578 (by decide +kernel)) (fun h => (List.mem_append.mp h).elim (tk_k_in w) (fun h => nomatch h))
set_option maxRecDepth 100000 in
theorem tk_f_Mend : ∀ w ∈ lk_f_Mend, w ∈ lw_tbl := mem_r [2153, 2155, 2576, 2577, 266] (by decide +kernel)
set_option maxRecDepth 100000 in
theorem tb_v_f_Mend : ∀ w ∈ v_f_Mend, w ∈ lw_tbl := fun w h => (List.mem_cons.mp h).elim (fun e => by rw [e]; exact mi 2575 (by decide +kernel)) (fun h => (List.mem_append.mp h).elim (tk_f_Mend w) (fun h => (List.mem_append.mp h).elim (tb_wsX120 w) (fun h => (List.mem_append.mp h).elim (tb_v_k_in w) (fun h => nomatch h))))
set_option maxRecDepth 100000 in
theorem tk_f_fault : ∀ w ∈ lk_f_fault, w ∈ lw_tbl := mem_r [903, 675, 673] (by decide +kernel)
set_option maxRecDepth 100000 in
theorem tb_v_f_fault : ∀ w ∈ v_f_fault, w ∈ lw_tbl := fun w h => (List.mem_cons.mp h).elim (fun e => by rw [e]; exact mi 950 (by decide +kernel)) (fun h => (List.mem_append.mp h).elim (tk_f_fault w) (fun h => (List.mem_append.mp h).elim (tb_wsX110 w) (fun h => (List.mem_append.mp h).elim (tb_wsX40 w) (fun h => nomatch h))))
set_option maxRecDepth 100000 in
theorem tk_f_Mfault : ∀ w ∈ lk_f_Mfault, w ∈ lw_tbl := mem_r [2153, 2160, 2159] (by decide +kernel)
set_option maxRecDepth 100000 in
theorem tb_v_f_Mfault : ∀ w ∈ v_f_Mfault, w ∈ lw_tbl := fun w h => (List.mem_cons.mp h).elim (fun e => by rw [e]; exact mi 2977 (by decide +kernel)) (fun h => (List.mem_append.mp h).elim (tk_f_Mfault w) (fun h => (List.mem_append.mp h).elim (tb_wsX120 w) (fun h => nomatch h)))
set_option maxRecDepth 100000 in
theorem tk_f_count : ∀ w ∈ lk_f_count, w ∈ lw_tbl := mem_r [908, 899] (by decide +kernel)
set_option maxRecDepth 100000 in
theorem tb_v_f_count : ∀ w ∈ v_f_count, w ∈ lw_tbl := fun w h => (List.mem_cons.mp h).elim (fun e => by rw [e]; exact mi 954 (by decide +kernel)) (fun h => (List.mem_append.mp h).elim (tk_f_count w) (fun h => (List.mem_append.mp h).elim (tb_wsX110 w) (fun h => nomatch h)))
set_option maxRecDepth 100000 in
theorem tk_f_Mcount : ∀ w ∈ lk_f_Mcount, w ∈ lw_tbl := mem_r [2153, 2982, 2576, 2577, 266, 2158, 2155] (by decide +kernel)
set_option maxRecDepth 100000 in
theorem tb_v_f_Mcount : ∀ w ∈ v_f_Mcount, w ∈ lw_tbl := fun w h => (List.mem_cons.mp h).elim (fun e => by rw [e]; exact mi 2981 (by decide +kernel)) (fun h => (List.mem_append.mp h).elim (tk_f_Mcount w) (fun h => (List.mem_append.mp h).elim (tb_wsX120 w) (fun h => (List.mem_append.mp h).elim (tb_v_k_in w) (fun h => nomatch h))))
set_option maxRecDepth 100000 in
theorem tk_f_hasUnit : ∀ w ∈ lk_f_hasUnit, w ∈ lw_tbl := mem_r [908] (by decide +kernel)
set_option maxRecDepth 100000 in
theorem tb_v_f_hasUnit : ∀ w ∈ v_f_hasUnit, w ∈ lw_tbl := fun w h => (List.mem_cons.mp h).elim (fun e => by rw [e]; exact mi 970 (by decide +kernel)) (fun h => (List.mem_append.mp h).elim (tk_f_hasUnit w) (fun h => (List.mem_append.mp h).elim (tb_wsX110 w) (fun h => nomatch h)))
set_option maxRecDepth 100000 in
theorem tk_f_unit : ∀ w ∈ lk_f_unit, w ∈ lw_tbl := mem_r [967, 969, 2, 250] (by decide +kernel)
set_option maxRecDepth 100000 in
theorem tb_v_f_unit : ∀ w ∈ v_f_unit, w ∈ lw_tbl := fun w h => (List.mem_cons.mp h).elim (fun e => by rw [e]; exact mi 966 (by decide +kernel)) (fun h => (List.mem_append.mp h).elim (tk_f_unit w) (fun h => (List.mem_append.mp h).elim (tb_v_f_hasUnit w) (fun h => nomatch h)))
set_option maxRecDepth 100000 in
theorem tk_k_isUnit_no : ∀ w ∈ lk_k_isUnit_no, w ∈ lw_tbl := mem_r [2158] (by decide +kernel)
set_option maxRecDepth 100000 in
theorem tb_v_k_isUnit_no : ∀ w ∈ v_k_isUnit_no, w ∈ lw_tbl := fun w h => (List.mem_cons.mp h).elim (fun e => by rw [e]; exact mi 2990 (by decide +kernel)) (fun h => (List.mem_append.mp h).elim (tk_k_isUnit_no w) (fun h => (List.mem_append.mp h).elim (tb_wsX120 w) (fun h => nomatch h)))
set_option maxRecDepth 100000 in
theorem tk_f_Munit : ∀ w ∈ lk_f_Munit, w ∈ lw_tbl := mem_r [2153, 2987, 2989, 203, 266] (by decide +kernel)
set_option maxRecDepth 100000 in
theorem tb_v_f_Munit : ∀ w ∈ v_f_Munit, w ∈ lw_tbl := fun w h => (List.mem_cons.mp h).elim (fun e => by rw [e]; exact mi 2986 (by decide +kernel)) (fun h => (List.mem_append.mp h).elim (tk_f_Munit w) (fun h => (List.mem_append.mp h).elim (tb_wsX120 w) (fun h => (List.mem_append.mp h).elim (tb_v_k_isUnit_no w) (fun h => nomatch h))))
