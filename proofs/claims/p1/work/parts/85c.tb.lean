set_option maxRecDepth 100000 in
theorem tk_f_asks : ∀ w ∈ lk_f_asks, w ∈ lw_tbl := mem_r [899, 900, 898, 1008, 1009, 1010, 251, 373] (by decide +kernel)
set_option maxRecDepth 100000 in
theorem tb_v_f_asks : ∀ w ∈ v_f_asks, w ∈ lw_tbl := fun w h => (List.mem_cons.mp h).elim (fun e => by rw [e]; exact mi 1007 (by decide +kernel)) (fun h => (List.mem_append.mp h).elim (tk_f_asks w) (fun h => (List.mem_append.mp h).elim (tb_wsX110 w) (fun h => (List.mem_append.mp h).elim (tb_v_w_begin0 w) (fun h => (List.mem_append.mp h).elim (tb_wsX100 w) (fun h => nomatch h)))))
set_option maxRecDepth 100000 in
theorem tk_k_isFine1 : ∀ w ∈ lk_k_isFine1, w ∈ lw_tbl := mem_r [2159] (by decide +kernel)
set_option maxRecDepth 100000 in
theorem tb_v_k_isFine1 : ∀ w ∈ v_k_isFine1, w ∈ lw_tbl := fun w h => (List.mem_cons.mp h).elim (fun e => by rw [e]; exact mi 2590 (by decide +kernel)) (fun h => (List.mem_append.mp h).elim (tk_k_isFine1 w) (fun h => (List.mem_append.mp h).elim (tb_wsX120 w) (fun h => nomatch h)))
set_option maxRecDepth 100000 in
theorem tk_k_at_out : ∀ w ∈ lk_k_at_out, w ∈ lw_tbl := mem_r [2157] (by decide +kernel)
set_option maxRecDepth 100000 in
theorem tb_v_k_at_out : ∀ w ∈ v_k_at_out, w ∈ lw_tbl := fun w h => (List.mem_cons.mp h).elim (fun e => by rw [e]; exact mi 2594 (by decide +kernel)) (fun h => (List.mem_append.mp h).elim (tk_k_at_out w) (fun h => (List.mem_append.mp h).elim (tb_wsX120 w) (fun h => nomatch h)))
set_option maxRecDepth 100000 in
theorem tk_k_next_end : ∀ w ∈ lk_k_next_end, w ∈ lw_tbl := mem_r [2587, 2589, 114, 266, 2163, 2591, 2593, 115, 2162, 2161] (by decide +kernel)
set_option maxRecDepth 100000 in
theorem tb_v_k_next_end : ∀ w ∈ v_k_next_end, w ∈ lw_tbl := fun w h => (List.mem_cons.mp h).elim (fun e => by rw [e]; exact mi 2586 (by decide +kernel)) (fun h => (List.mem_append.mp h).elim (tk_k_next_end w) (fun h => (List.mem_append.mp h).elim (tb_v_k_isFine1 w) (fun h => (List.mem_append.mp h).elim (tb_wsX120 w) (fun h => (List.mem_append.mp h).elim (tb_v_k_at_out w) (fun h => nomatch h)))))
set_option maxRecDepth 100000 in
theorem tk_f_Masks : ∀ w ∈ lk_f_Masks, w ∈ lw_tbl := mem_r [2153, 2159, 2160, 2155, 2157, 2169, 2163, 2583, 2585, 113, 266, 2587, 2589, 114, 2161, 2165] (by decide +kernel)
set_option maxRecDepth 100000 in
theorem tb_v_f_Masks : ∀ w ∈ v_f_Masks, w ∈ lw_tbl := fun w h => (List.mem_cons.mp h).elim (fun e => by rw [e]; exact mi 3006 (by decide +kernel)) (fun h => (List.mem_append.mp h).elim (tk_f_Masks w) (fun h => (List.mem_append.mp h).elim (tb_wsX120 w) (fun h => (List.mem_append.mp h).elim (tb_v_k_next_end w) (fun h => (List.mem_append.mp h).elim (tb_v_k_isFine1 w) (fun h => nomatch h)))))
set_option maxRecDepth 100000 in
theorem tk_f_has : ∀ w ∈ lk_f_has, w ∈ lw_tbl := mem_r [908] (by decide +kernel)
set_option maxRecDepth 100000 in
theorem tb_v_f_has : ∀ w ∈ v_f_has, w ∈ lw_tbl := fun w h => (List.mem_cons.mp h).elim (fun e => by rw [e]; exact mi 1181 (by decide +kernel)) (fun h => (List.mem_append.mp h).elim (tk_f_has w) (fun h => (List.mem_append.mp h).elim (tb_wsX110 w) (fun h => nomatch h)))
set_option maxRecDepth 100000 in
theorem tk_f_Mhas : ∀ w ∈ lk_f_Mhas, w ∈ lw_tbl := mem_r [2153, 2158] (by decide +kernel)
set_option maxRecDepth 100000 in
theorem tb_v_f_Mhas : ∀ w ∈ v_f_Mhas, w ∈ lw_tbl := fun w h => (List.mem_cons.mp h).elim (fun e => by rw [e]; exact mi 3010 (by decide +kernel)) (fun h => (List.mem_append.mp h).elim (tk_f_Mhas w) (fun h => (List.mem_append.mp h).elim (tb_wsX120 w) (fun h => nomatch h)))
set_option maxRecDepth 100000 in
theorem tk_f_may : ∀ w ∈ lk_f_may, w ∈ lw_tbl := mem_r [909] (by decide +kernel)
set_option maxRecDepth 100000 in
theorem tb_v_f_may : ∀ w ∈ v_f_may, w ∈ lw_tbl := fun w h => (List.mem_cons.mp h).elim (fun e => by rw [e]; exact mi 1197 (by decide +kernel)) (fun h => (List.mem_append.mp h).elim (tk_f_may w) (fun h => (List.mem_append.mp h).elim (tb_wsX110 w) (fun h => nomatch h)))
set_option maxRecDepth 100000 in
theorem tk_f_Mmay : ∀ w ∈ lk_f_Mmay, w ∈ lw_tbl := mem_r [2153, 2987, 2989, 203, 266] (by decide +kernel)
set_option maxRecDepth 100000 in
theorem tb_v_f_Mmay : ∀ w ∈ v_f_Mmay, w ∈ lw_tbl := fun w h => (List.mem_cons.mp h).elim (fun e => by rw [e]; exact mi 3026 (by decide +kernel)) (fun h => (List.mem_append.mp h).elim (tk_f_Mmay w) (fun h => (List.mem_append.mp h).elim (tb_wsX120 w) (fun h => (List.mem_append.mp h).elim (tb_v_k_isUnit_no w) (fun h => nomatch h))))
set_option maxRecDepth 100000 in
theorem tk_f_result : ∀ w ∈ lk_f_result, w ∈ lw_tbl := mem_r [905, 854] (by decide +kernel)
set_option maxRecDepth 100000 in
theorem tb_v_f_result : ∀ w ∈ v_f_result, w ∈ lw_tbl := fun w h => (List.mem_cons.mp h).elim (fun e => by rw [e]; exact mi 1262 (by decide +kernel)) (fun h => (List.mem_append.mp h).elim (tk_f_result w) (fun h => (List.mem_append.mp h).elim (tb_wsX110 w) (fun h => (List.mem_append.mp h).elim (tb_wsX10 w) (fun h => nomatch h))))
set_option maxRecDepth 100000 in
theorem tk_f_Mresult : ∀ w ∈ lk_f_Mresult, w ∈ lw_tbl := mem_r [2153, 2238] (by decide +kernel)
set_option maxRecDepth 100000 in
theorem tb_v_f_Mresult : ∀ w ∈ v_f_Mresult, w ∈ lw_tbl := fun w h => (List.mem_cons.mp h).elim (fun e => by rw [e]; exact mi 3205 (by decide +kernel)) (fun h => (List.mem_append.mp h).elim (tk_f_Mresult w) (fun h => (List.mem_append.mp h).elim (tb_wsX120 w) (fun h => nomatch h)))
set_option maxRecDepth 100000 in
theorem tk_f_event : ∀ w ∈ lk_f_event, w ∈ lw_tbl := mem_r [905, 854] (by decide +kernel)
set_option maxRecDepth 100000 in
theorem tb_v_f_event : ∀ w ∈ v_f_event, w ∈ lw_tbl := fun w h => (List.mem_cons.mp h).elim (fun e => by rw [e]; exact mi 1278 (by decide +kernel)) (fun h => (List.mem_append.mp h).elim (tk_f_event w) (fun h => (List.mem_append.mp h).elim (tb_wsX110 w) (fun h => (List.mem_append.mp h).elim (tb_wsX10 w) (fun h => nomatch h))))
set_option maxRecDepth 100000 in
theorem tk_f_Mevent : ∀ w ∈ lk_f_Mevent, w ∈ lw_tbl := mem_r [2153, 2238] (by decide +kernel)
set_option maxRecDepth 100000 in
theorem tb_v_f_Mevent : ∀ w ∈ v_f_Mevent, w ∈ lw_tbl := fun w h => (List.mem_cons.mp h).elim (fun e => by rw [e]; exact mi 3209 (by decide +kernel)) (fun h => (List.mem_append.mp h).elim (tk_f_Mevent w) (fun h => (List.mem_append.mp h).elim (tb_wsX120 w) (fun h => nomatch h)))
set_option maxRecDepth 100000 in
theorem tk_f_thread : ∀ w ∈ lk_f_thread, w ∈ lw_tbl := mem_r [905, 854] (by decide +kernel)
set_option maxRecDepth 100000 in
theorem tb_v_f_thread : ∀ w ∈ v_f_thread, w ∈ lw_tbl := fun w h => (List.mem_cons.mp h).elim (fun e => by rw [e]; exact mi 1287 (by decide +kernel)) (fun h => (List.mem_append.mp h).elim (tk_f_thread w) (fun h => (List.mem_append.mp h).elim (tb_wsX110 w) (fun h => (List.mem_append.mp h).elim (tb_wsX10 w) (fun h => nomatch h))))
