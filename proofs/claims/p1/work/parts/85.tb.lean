set_option maxRecDepth 100000 in
theorem tk_k_putBytes : ∀ w ∈ lk_k_putBytes, w ∈ lw_tbl := by decide +kernel
set_option maxRecDepth 100000 in
theorem tb_v_k_putBytes : ∀ w ∈ v_k_putBytes, w ∈ lw_tbl := fun w h => (List.mem_cons.mp h).elim (fun e => by rw [e]; decide +kernel) (fun h => (List.mem_append.mp h).elim (tk_k_putBytes w) (fun h => (List.mem_append.mp h).elim (tb_wsX110 w) (fun h => nomatch h)))
set_option maxRecDepth 100000 in
theorem tk_f_feed : ∀ w ∈ lk_f_feed, w ∈ lw_tbl := by decide +kernel
set_option maxRecDepth 100000 in
theorem tb_v_f_feed : ∀ w ∈ v_f_feed, w ∈ lw_tbl := fun w h => (List.mem_cons.mp h).elim (fun e => by rw [e]; decide +kernel) (fun h => (List.mem_append.mp h).elim (tk_f_feed w) (fun h => (List.mem_append.mp h).elim (tb_wsX110 w) (fun h => (List.mem_append.mp h).elim (tb_v_k_putBytes w) (fun h => nomatch h))))
set_option maxRecDepth 100000 in
theorem tk_f_Mfeed : ∀ w ∈ lk_f_Mfeed, w ∈ lw_tbl := by decide +kernel
set_option maxRecDepth 100000 in
theorem tb_v_f_Mfeed : ∀ w ∈ v_f_Mfeed, w ∈ lw_tbl := fun w h => (List.mem_cons.mp h).elim (fun e => by rw [e]; decide +kernel) (fun h => (List.mem_append.mp h).elim (tk_f_Mfeed w) (fun h => (List.mem_append.mp h).elim (tb_wsX120 w) (fun h => nomatch h)))
set_option maxRecDepth 100000 in
theorem tk_f_end : ∀ w ∈ lk_f_end, w ∈ lw_tbl := by decide +kernel
set_option maxRecDepth 100000 in
theorem tb_v_f_end : ∀ w ∈ v_f_end, w ∈ lw_tbl := fun w h => (List.mem_cons.mp h).elim (fun e => by rw [e]; decide +kernel) (fun h => (List.mem_append.mp h).elim (tk_f_end w) (fun h => (List.mem_append.mp h).elim (tb_wsX110 w) (fun h => nomatch h)))
set_option maxRecDepth 100000 in
theorem tk_k_in : ∀ w ∈ lk_k_in, w ∈ lw_tbl := by decide +kernel
set_option maxRecDepth 100000 in
theorem tb_v_k_in : ∀ w ∈ v_k_in, w ∈ lw_tbl := fun w h => (List.mem_cons.mp h).elim (fun e => by rw [e]; decide +kernel) (fun h => (List.mem_append.mp h).elim (tk_k_in w) (fun h => nomatch h))
set_option maxRecDepth 100000 in
theorem tk_f_Mend : ∀ w ∈ lk_f_Mend, w ∈ lw_tbl := by decide +kernel
set_option maxRecDepth 100000 in
theorem tb_v_f_Mend : ∀ w ∈ v_f_Mend, w ∈ lw_tbl := fun w h => (List.mem_cons.mp h).elim (fun e => by rw [e]; decide +kernel) (fun h => (List.mem_append.mp h).elim (tk_f_Mend w) (fun h => (List.mem_append.mp h).elim (tb_wsX120 w) (fun h => (List.mem_append.mp h).elim (tb_v_k_in w) (fun h => nomatch h))))
set_option maxRecDepth 100000 in
theorem tk_f_fault : ∀ w ∈ lk_f_fault, w ∈ lw_tbl := by decide +kernel
set_option maxRecDepth 100000 in
theorem tb_v_f_fault : ∀ w ∈ v_f_fault, w ∈ lw_tbl := fun w h => (List.mem_cons.mp h).elim (fun e => by rw [e]; decide +kernel) (fun h => (List.mem_append.mp h).elim (tk_f_fault w) (fun h => (List.mem_append.mp h).elim (tb_wsX110 w) (fun h => (List.mem_append.mp h).elim (tb_wsX40 w) (fun h => nomatch h))))
set_option maxRecDepth 100000 in
theorem tk_f_Mfault : ∀ w ∈ lk_f_Mfault, w ∈ lw_tbl := by decide +kernel
set_option maxRecDepth 100000 in
theorem tb_v_f_Mfault : ∀ w ∈ v_f_Mfault, w ∈ lw_tbl := fun w h => (List.mem_cons.mp h).elim (fun e => by rw [e]; decide +kernel) (fun h => (List.mem_append.mp h).elim (tk_f_Mfault w) (fun h => (List.mem_append.mp h).elim (tb_wsX120 w) (fun h => nomatch h)))
set_option maxRecDepth 100000 in
theorem tk_f_count : ∀ w ∈ lk_f_count, w ∈ lw_tbl := by decide +kernel
set_option maxRecDepth 100000 in
theorem tb_v_f_count : ∀ w ∈ v_f_count, w ∈ lw_tbl := fun w h => (List.mem_cons.mp h).elim (fun e => by rw [e]; decide +kernel) (fun h => (List.mem_append.mp h).elim (tk_f_count w) (fun h => (List.mem_append.mp h).elim (tb_wsX110 w) (fun h => nomatch h)))
set_option maxRecDepth 100000 in
theorem tk_f_Mcount : ∀ w ∈ lk_f_Mcount, w ∈ lw_tbl := by decide +kernel
set_option maxRecDepth 100000 in
theorem tb_v_f_Mcount : ∀ w ∈ v_f_Mcount, w ∈ lw_tbl := fun w h => (List.mem_cons.mp h).elim (fun e => by rw [e]; decide +kernel) (fun h => (List.mem_append.mp h).elim (tk_f_Mcount w) (fun h => (List.mem_append.mp h).elim (tb_wsX120 w) (fun h => (List.mem_append.mp h).elim (tb_v_k_in w) (fun h => nomatch h))))
set_option maxRecDepth 100000 in
theorem tk_f_hasUnit : ∀ w ∈ lk_f_hasUnit, w ∈ lw_tbl := by decide +kernel
set_option maxRecDepth 100000 in
theorem tb_v_f_hasUnit : ∀ w ∈ v_f_hasUnit, w ∈ lw_tbl := fun w h => (List.mem_cons.mp h).elim (fun e => by rw [e]; decide +kernel) (fun h => (List.mem_append.mp h).elim (tk_f_hasUnit w) (fun h => (List.mem_append.mp h).elim (tb_wsX110 w) (fun h => nomatch h)))
set_option maxRecDepth 100000 in
theorem tk_f_unit : ∀ w ∈ lk_f_unit, w ∈ lw_tbl := by decide +kernel
set_option maxRecDepth 100000 in
theorem tb_v_f_unit : ∀ w ∈ v_f_unit, w ∈ lw_tbl := fun w h => (List.mem_cons.mp h).elim (fun e => by rw [e]; decide +kernel) (fun h => (List.mem_append.mp h).elim (tk_f_unit w) (fun h => (List.mem_append.mp h).elim (tb_v_f_hasUnit w) (fun h => nomatch h)))
set_option maxRecDepth 100000 in
theorem tk_k_isUnit_no : ∀ w ∈ lk_k_isUnit_no, w ∈ lw_tbl := by decide +kernel
set_option maxRecDepth 100000 in
theorem tb_v_k_isUnit_no : ∀ w ∈ v_k_isUnit_no, w ∈ lw_tbl := fun w h => (List.mem_cons.mp h).elim (fun e => by rw [e]; decide +kernel) (fun h => (List.mem_append.mp h).elim (tk_k_isUnit_no w) (fun h => (List.mem_append.mp h).elim (tb_wsX120 w) (fun h => nomatch h)))
set_option maxRecDepth 100000 in
theorem tk_f_Munit : ∀ w ∈ lk_f_Munit, w ∈ lw_tbl := by decide +kernel
set_option maxRecDepth 100000 in
theorem tb_v_f_Munit : ∀ w ∈ v_f_Munit, w ∈ lw_tbl := fun w h => (List.mem_cons.mp h).elim (fun e => by rw [e]; decide +kernel) (fun h => (List.mem_append.mp h).elim (tk_f_Munit w) (fun h => (List.mem_append.mp h).elim (tb_wsX120 w) (fun h => (List.mem_append.mp h).elim (tb_v_k_isUnit_no w) (fun h => nomatch h))))
set_option maxRecDepth 100000 in
theorem tk_f_code : ∀ w ∈ lk_f_code, w ∈ lw_tbl := by decide +kernel
set_option maxRecDepth 100000 in
theorem tb_v_f_code : ∀ w ∈ v_f_code, w ∈ lw_tbl := fun w h => (List.mem_cons.mp h).elim (fun e => by rw [e]; decide +kernel) (fun h => (List.mem_append.mp h).elim (tk_f_code w) (fun h => (List.mem_append.mp h).elim (tb_v_f_hasUnit w) (fun h => nomatch h)))
set_option maxRecDepth 100000 in
theorem tk_f_Mcode : ∀ w ∈ lk_f_Mcode, w ∈ lw_tbl := by decide +kernel
set_option maxRecDepth 100000 in
theorem tb_v_f_Mcode : ∀ w ∈ v_f_Mcode, w ∈ lw_tbl := fun w h => (List.mem_cons.mp h).elim (fun e => by rw [e]; decide +kernel) (fun h => (List.mem_append.mp h).elim (tk_f_Mcode w) (fun h => (List.mem_append.mp h).elim (tb_wsX120 w) (fun h => (List.mem_append.mp h).elim (tb_v_k_isUnit_no w) (fun h => nomatch h))))
set_option maxRecDepth 100000 in
theorem tk_f_number : ∀ w ∈ lk_f_number, w ∈ lw_tbl := by decide +kernel
set_option maxRecDepth 100000 in
theorem tb_v_f_number : ∀ w ∈ v_f_number, w ∈ lw_tbl := fun w h => (List.mem_cons.mp h).elim (fun e => by rw [e]; decide +kernel) (fun h => (List.mem_append.mp h).elim (tk_f_number w) (fun h => (List.mem_append.mp h).elim (tb_wsX110 w) (fun h => nomatch h)))
set_option maxRecDepth 100000 in
theorem tk_f_Mnumber : ∀ w ∈ lk_f_Mnumber, w ∈ lw_tbl := by decide +kernel
set_option maxRecDepth 100000 in
theorem tb_v_f_Mnumber : ∀ w ∈ v_f_Mnumber, w ∈ lw_tbl := fun w h => (List.mem_cons.mp h).elim (fun e => by rw [e]; decide +kernel) (fun h => (List.mem_append.mp h).elim (tk_f_Mnumber w) (fun h => (List.mem_append.mp h).elim (tb_wsX120 w) (fun h => nomatch h)))
set_option maxRecDepth 100000 in
theorem tk_f_domain : ∀ w ∈ lk_f_domain, w ∈ lw_tbl := by decide +kernel
set_option maxRecDepth 100000 in
theorem tb_v_f_domain : ∀ w ∈ v_f_domain, w ∈ lw_tbl := fun w h => (List.mem_cons.mp h).elim (fun e => by rw [e]; decide +kernel) (fun h => (List.mem_append.mp h).elim (tk_f_domain w) (fun h => (List.mem_append.mp h).elim (tb_wsX110 w) (fun h => nomatch h)))
set_option maxRecDepth 100000 in
theorem tk_f_Mdomain : ∀ w ∈ lk_f_Mdomain, w ∈ lw_tbl := by decide +kernel
set_option maxRecDepth 100000 in
theorem tb_v_f_Mdomain : ∀ w ∈ v_f_Mdomain, w ∈ lw_tbl := fun w h => (List.mem_cons.mp h).elim (fun e => by rw [e]; decide +kernel) (fun h => (List.mem_append.mp h).elim (tk_f_Mdomain w) (fun h => (List.mem_append.mp h).elim (tb_wsX120 w) (fun h => nomatch h)))
set_option maxRecDepth 100000 in
theorem tb_wsX6_cut : ∀ w ∈ wsX6_cut, w ∈ lw_tbl := by decide +kernel
set_option maxRecDepth 100000 in
theorem tk_w_skip_end : ∀ w ∈ lk_w_skip_end, w ∈ lw_tbl := by decide +kernel
set_option maxRecDepth 100000 in
theorem tb_v_w_skip_end : ∀ w ∈ v_w_skip_end, w ∈ lw_tbl := fun w h => (List.mem_cons.mp h).elim (fun e => by rw [e]; decide +kernel) (fun h => (List.mem_append.mp h).elim (tk_w_skip_end w) (fun h => (List.mem_append.mp h).elim (tb_wsX100 w) (fun h => nomatch h)))
set_option maxRecDepth 100000 in
theorem tk_w_byteAt_out : ∀ w ∈ lk_w_byteAt_out, w ∈ lw_tbl := by decide +kernel
set_option maxRecDepth 100000 in
theorem tb_v_w_byteAt_out : ∀ w ∈ v_w_byteAt_out, w ∈ lw_tbl := fun w h => (List.mem_cons.mp h).elim (fun e => by rw [e]; decide +kernel) (fun h => (List.mem_append.mp h).elim (tk_w_byteAt_out w) (fun h => (List.mem_append.mp h).elim (tb_wsX100 w) (fun h => nomatch h)))
set_option maxRecDepth 100000 in
theorem tb_wsX6_add : ∀ w ∈ wsX6_add, w ∈ lw_tbl := by decide +kernel
set_option maxRecDepth 100000 in
theorem tk_w_addWord : ∀ w ∈ lk_w_addWord, w ∈ lw_tbl := by decide +kernel
set_option maxRecDepth 100000 in
theorem tb_v_w_addWord : ∀ w ∈ v_w_addWord, w ∈ lw_tbl := fun w h => (List.mem_cons.mp h).elim (fun e => by rw [e]; decide +kernel) (fun h => (List.mem_append.mp h).elim (tk_w_addWord w) (fun h => (List.mem_append.mp h).elim (tb_wsX100 w) (fun h => (List.mem_append.mp h).elim (tb_wsX6_add w) (fun h => nomatch h))))
set_option maxRecDepth 100000 in
theorem tb_wsX6_at : ∀ w ∈ wsX6_at, w ∈ lw_tbl := by decide +kernel
set_option maxRecDepth 100000 in
theorem tk_w_findWord0 : ∀ w ∈ lk_w_findWord0, w ∈ lw_tbl := by decide +kernel
set_option maxRecDepth 100000 in
theorem tb_v_w_findWord0 : ∀ w ∈ v_w_findWord0, w ∈ lw_tbl := fun w h => (List.mem_cons.mp h).elim (fun e => by rw [e]; decide +kernel) (fun h => (List.mem_append.mp h).elim (tk_w_findWord0 w) (fun h => (List.mem_append.mp h).elim (tb_v_w_skip_end w) (fun h => (List.mem_append.mp h).elim (tb_wsX100 w) (fun h => (List.mem_append.mp h).elim (tb_v_w_byteAt_out w) (fun h => (List.mem_append.mp h).elim (tb_v_w_addWord w) (fun h => (List.mem_append.mp h).elim (tb_wsX60 w) (fun h => (List.mem_append.mp h).elim (tb_wsX6_at w) (fun h => nomatch h))))))))
set_option maxRecDepth 100000 in
theorem tb_wsX6_get : ∀ w ∈ wsX6_get, w ∈ lw_tbl := by decide +kernel
set_option maxRecDepth 100000 in
theorem tk_w_advance0 : ∀ w ∈ lk_w_advance0, w ∈ lw_tbl := by decide +kernel
set_option maxRecDepth 100000 in
theorem tb_v_w_advance0 : ∀ w ∈ v_w_advance0, w ∈ lw_tbl := fun w h => (List.mem_cons.mp h).elim (fun e => by rw [e]; decide +kernel) (fun h => (List.mem_append.mp h).elim (tk_w_advance0 w) (fun h => (List.mem_append.mp h).elim (tb_wsX100 w) (fun h => (List.mem_append.mp h).elim (tb_wsX6_at w) (fun h => (List.mem_append.mp h).elim (tb_wsX6_get w) (fun h => nomatch h)))))
set_option maxRecDepth 100000 in
theorem tk_w_begin0 : ∀ w ∈ lk_w_begin0, w ∈ lw_tbl := by decide +kernel
set_option maxRecDepth 100000 in
theorem tb_v_w_begin0 : ∀ w ∈ v_w_begin0, w ∈ lw_tbl := fun w h => (List.mem_cons.mp h).elim (fun e => by rw [e]; decide +kernel) (fun h => (List.mem_append.mp h).elim (tk_w_begin0 w) (fun h => (List.mem_append.mp h).elim (tb_wsX100 w) (fun h => (List.mem_append.mp h).elim (tb_wsX6_cut w) (fun h => (List.mem_append.mp h).elim (tb_v_w_findWord0 w) (fun h => (List.mem_append.mp h).elim (tb_v_w_advance0 w) (fun h => nomatch h))))))
set_option maxRecDepth 100000 in
theorem tk_f_asks : ∀ w ∈ lk_f_asks, w ∈ lw_tbl := by decide +kernel
set_option maxRecDepth 100000 in
theorem tb_v_f_asks : ∀ w ∈ v_f_asks, w ∈ lw_tbl := fun w h => (List.mem_cons.mp h).elim (fun e => by rw [e]; decide +kernel) (fun h => (List.mem_append.mp h).elim (tk_f_asks w) (fun h => (List.mem_append.mp h).elim (tb_wsX110 w) (fun h => (List.mem_append.mp h).elim (tb_v_w_begin0 w) (fun h => (List.mem_append.mp h).elim (tb_wsX100 w) (fun h => nomatch h)))))
set_option maxRecDepth 100000 in
theorem tk_k_isFine1 : ∀ w ∈ lk_k_isFine1, w ∈ lw_tbl := by decide +kernel
set_option maxRecDepth 100000 in
theorem tb_v_k_isFine1 : ∀ w ∈ v_k_isFine1, w ∈ lw_tbl := fun w h => (List.mem_cons.mp h).elim (fun e => by rw [e]; decide +kernel) (fun h => (List.mem_append.mp h).elim (tk_k_isFine1 w) (fun h => (List.mem_append.mp h).elim (tb_wsX120 w) (fun h => nomatch h)))
set_option maxRecDepth 100000 in
theorem tk_k_at_out : ∀ w ∈ lk_k_at_out, w ∈ lw_tbl := by decide +kernel
set_option maxRecDepth 100000 in
theorem tb_v_k_at_out : ∀ w ∈ v_k_at_out, w ∈ lw_tbl := fun w h => (List.mem_cons.mp h).elim (fun e => by rw [e]; decide +kernel) (fun h => (List.mem_append.mp h).elim (tk_k_at_out w) (fun h => (List.mem_append.mp h).elim (tb_wsX120 w) (fun h => nomatch h)))
set_option maxRecDepth 100000 in
theorem tk_k_next_end : ∀ w ∈ lk_k_next_end, w ∈ lw_tbl := by decide +kernel
set_option maxRecDepth 100000 in
theorem tb_v_k_next_end : ∀ w ∈ v_k_next_end, w ∈ lw_tbl := fun w h => (List.mem_cons.mp h).elim (fun e => by rw [e]; decide +kernel) (fun h => (List.mem_append.mp h).elim (tk_k_next_end w) (fun h => (List.mem_append.mp h).elim (tb_v_k_isFine1 w) (fun h => (List.mem_append.mp h).elim (tb_wsX120 w) (fun h => (List.mem_append.mp h).elim (tb_v_k_at_out w) (fun h => nomatch h)))))
set_option maxRecDepth 100000 in
theorem tk_f_Masks : ∀ w ∈ lk_f_Masks, w ∈ lw_tbl := by decide +kernel
set_option maxRecDepth 100000 in
theorem tb_v_f_Masks : ∀ w ∈ v_f_Masks, w ∈ lw_tbl := fun w h => (List.mem_cons.mp h).elim (fun e => by rw [e]; decide +kernel) (fun h => (List.mem_append.mp h).elim (tk_f_Masks w) (fun h => (List.mem_append.mp h).elim (tb_wsX120 w) (fun h => (List.mem_append.mp h).elim (tb_v_k_next_end w) (fun h => (List.mem_append.mp h).elim (tb_v_k_isFine1 w) (fun h => nomatch h)))))
set_option maxRecDepth 100000 in
theorem tk_f_has : ∀ w ∈ lk_f_has, w ∈ lw_tbl := by decide +kernel
set_option maxRecDepth 100000 in
theorem tb_v_f_has : ∀ w ∈ v_f_has, w ∈ lw_tbl := fun w h => (List.mem_cons.mp h).elim (fun e => by rw [e]; decide +kernel) (fun h => (List.mem_append.mp h).elim (tk_f_has w) (fun h => (List.mem_append.mp h).elim (tb_wsX110 w) (fun h => nomatch h)))
set_option maxRecDepth 100000 in
theorem tk_f_Mhas : ∀ w ∈ lk_f_Mhas, w ∈ lw_tbl := by decide +kernel
set_option maxRecDepth 100000 in
theorem tb_v_f_Mhas : ∀ w ∈ v_f_Mhas, w ∈ lw_tbl := fun w h => (List.mem_cons.mp h).elim (fun e => by rw [e]; decide +kernel) (fun h => (List.mem_append.mp h).elim (tk_f_Mhas w) (fun h => (List.mem_append.mp h).elim (tb_wsX120 w) (fun h => nomatch h)))
set_option maxRecDepth 100000 in
theorem tk_f_may : ∀ w ∈ lk_f_may, w ∈ lw_tbl := by decide +kernel
set_option maxRecDepth 100000 in
theorem tb_v_f_may : ∀ w ∈ v_f_may, w ∈ lw_tbl := fun w h => (List.mem_cons.mp h).elim (fun e => by rw [e]; decide +kernel) (fun h => (List.mem_append.mp h).elim (tk_f_may w) (fun h => (List.mem_append.mp h).elim (tb_wsX110 w) (fun h => nomatch h)))
set_option maxRecDepth 100000 in
theorem tk_f_Mmay : ∀ w ∈ lk_f_Mmay, w ∈ lw_tbl := by decide +kernel
set_option maxRecDepth 100000 in
theorem tb_v_f_Mmay : ∀ w ∈ v_f_Mmay, w ∈ lw_tbl := fun w h => (List.mem_cons.mp h).elim (fun e => by rw [e]; decide +kernel) (fun h => (List.mem_append.mp h).elim (tk_f_Mmay w) (fun h => (List.mem_append.mp h).elim (tb_wsX120 w) (fun h => (List.mem_append.mp h).elim (tb_v_k_isUnit_no w) (fun h => nomatch h))))
set_option maxRecDepth 100000 in
theorem tk_f_result : ∀ w ∈ lk_f_result, w ∈ lw_tbl := by decide +kernel
set_option maxRecDepth 100000 in
theorem tb_v_f_result : ∀ w ∈ v_f_result, w ∈ lw_tbl := fun w h => (List.mem_cons.mp h).elim (fun e => by rw [e]; decide +kernel) (fun h => (List.mem_append.mp h).elim (tk_f_result w) (fun h => (List.mem_append.mp h).elim (tb_wsX110 w) (fun h => (List.mem_append.mp h).elim (tb_wsX10 w) (fun h => nomatch h))))
set_option maxRecDepth 100000 in
theorem tk_f_Mresult : ∀ w ∈ lk_f_Mresult, w ∈ lw_tbl := by decide +kernel
set_option maxRecDepth 100000 in
theorem tb_v_f_Mresult : ∀ w ∈ v_f_Mresult, w ∈ lw_tbl := fun w h => (List.mem_cons.mp h).elim (fun e => by rw [e]; decide +kernel) (fun h => (List.mem_append.mp h).elim (tk_f_Mresult w) (fun h => (List.mem_append.mp h).elim (tb_wsX120 w) (fun h => nomatch h)))
set_option maxRecDepth 100000 in
theorem tk_f_event : ∀ w ∈ lk_f_event, w ∈ lw_tbl := by decide +kernel
set_option maxRecDepth 100000 in
theorem tb_v_f_event : ∀ w ∈ v_f_event, w ∈ lw_tbl := fun w h => (List.mem_cons.mp h).elim (fun e => by rw [e]; decide +kernel) (fun h => (List.mem_append.mp h).elim (tk_f_event w) (fun h => (List.mem_append.mp h).elim (tb_wsX110 w) (fun h => (List.mem_append.mp h).elim (tb_wsX10 w) (fun h => nomatch h))))
set_option maxRecDepth 100000 in
theorem tk_f_Mevent : ∀ w ∈ lk_f_Mevent, w ∈ lw_tbl := by decide +kernel
set_option maxRecDepth 100000 in
theorem tb_v_f_Mevent : ∀ w ∈ v_f_Mevent, w ∈ lw_tbl := fun w h => (List.mem_cons.mp h).elim (fun e => by rw [e]; decide +kernel) (fun h => (List.mem_append.mp h).elim (tk_f_Mevent w) (fun h => (List.mem_append.mp h).elim (tb_wsX120 w) (fun h => nomatch h)))
set_option maxRecDepth 100000 in
theorem tk_f_thread : ∀ w ∈ lk_f_thread, w ∈ lw_tbl := by decide +kernel
set_option maxRecDepth 100000 in
theorem tb_v_f_thread : ∀ w ∈ v_f_thread, w ∈ lw_tbl := fun w h => (List.mem_cons.mp h).elim (fun e => by rw [e]; decide +kernel) (fun h => (List.mem_append.mp h).elim (tk_f_thread w) (fun h => (List.mem_append.mp h).elim (tb_wsX110 w) (fun h => (List.mem_append.mp h).elim (tb_wsX10 w) (fun h => nomatch h))))
set_option maxRecDepth 100000 in
theorem tk_f_Mthread : ∀ w ∈ lk_f_Mthread, w ∈ lw_tbl := by decide +kernel
set_option maxRecDepth 100000 in
theorem tb_v_f_Mthread : ∀ w ∈ v_f_Mthread, w ∈ lw_tbl := fun w h => (List.mem_cons.mp h).elim (fun e => by rw [e]; decide +kernel) (fun h => (List.mem_append.mp h).elim (tk_f_Mthread w) (fun h => (List.mem_append.mp h).elim (tb_wsX120 w) (fun h => nomatch h)))
set_option maxRecDepth 100000 in
theorem tk_f_context : ∀ w ∈ lk_f_context, w ∈ lw_tbl := by decide +kernel
set_option maxRecDepth 100000 in
theorem tb_v_f_context : ∀ w ∈ v_f_context, w ∈ lw_tbl := fun w h => (List.mem_cons.mp h).elim (fun e => by rw [e]; decide +kernel) (fun h => (List.mem_append.mp h).elim (tk_f_context w) (fun h => (List.mem_append.mp h).elim (tb_wsX110 w) (fun h => (List.mem_append.mp h).elim (tb_wsX10 w) (fun h => nomatch h))))
set_option maxRecDepth 100000 in
theorem tk_f_Mcontext : ∀ w ∈ lk_f_Mcontext, w ∈ lw_tbl := by decide +kernel
set_option maxRecDepth 100000 in
theorem tb_v_f_Mcontext : ∀ w ∈ v_f_Mcontext, w ∈ lw_tbl := fun w h => (List.mem_cons.mp h).elim (fun e => by rw [e]; decide +kernel) (fun h => (List.mem_append.mp h).elim (tk_f_Mcontext w) (fun h => (List.mem_append.mp h).elim (tb_wsX120 w) (fun h => nomatch h)))
set_option maxRecDepth 100000 in
theorem tk_k_Machine_forget : ∀ w ∈ lk_k_Machine_forget, w ∈ lw_tbl := by decide +kernel
set_option maxRecDepth 100000 in
theorem tb_v_k_Machine_forget : ∀ w ∈ v_k_Machine_forget, w ∈ lw_tbl := fun w h => (List.mem_cons.mp h).elim (fun e => by rw [e]; decide +kernel) (fun h => (List.mem_append.mp h).elim (tk_k_Machine_forget w) (fun h => (List.mem_append.mp h).elim (tb_wsX10 w) (fun h => nomatch h)))
set_option maxRecDepth 100000 in
theorem tk_k_Survey_forget : ∀ w ∈ lk_k_Survey_forget, w ∈ lw_tbl := by decide +kernel
set_option maxRecDepth 100000 in
theorem tb_v_k_Survey_forget : ∀ w ∈ v_k_Survey_forget, w ∈ lw_tbl := fun w h => (List.mem_cons.mp h).elim (fun e => by rw [e]; decide +kernel) (fun h => (List.mem_append.mp h).elim (tk_k_Survey_forget w) (fun h => (List.mem_append.mp h).elim (tb_wsX80 w) (fun h => nomatch h)))
set_option maxRecDepth 100000 in
theorem tk_k_Policy_clear : ∀ w ∈ lk_k_Policy_clear, w ∈ lw_tbl := by decide +kernel
set_option maxRecDepth 100000 in
theorem tb_v_k_Policy_clear : ∀ w ∈ v_k_Policy_clear, w ∈ lw_tbl := fun w h => (List.mem_cons.mp h).elim (fun e => by rw [e]; decide +kernel) (fun h => (List.mem_append.mp h).elim (tk_k_Policy_clear w) (fun h => (List.mem_append.mp h).elim (tb_wsX30 w) (fun h => nomatch h)))
set_option maxRecDepth 100000 in
theorem tk_k_Plan_clear : ∀ w ∈ lk_k_Plan_clear, w ∈ lw_tbl := by decide +kernel
set_option maxRecDepth 100000 in
theorem tb_v_k_Plan_clear : ∀ w ∈ v_k_Plan_clear, w ∈ lw_tbl := fun w h => (List.mem_cons.mp h).elim (fun e => by rw [e]; decide +kernel) (fun h => (List.mem_append.mp h).elim (tk_k_Plan_clear w) (fun h => (List.mem_append.mp h).elim (tb_wsX20 w) (fun h => (List.mem_append.mp h).elim (tb_v_k_Policy_clear w) (fun h => nomatch h))))
set_option maxRecDepth 100000 in
theorem tk_k_readGrants0 : ∀ w ∈ lk_k_readGrants0, w ∈ lw_tbl := by decide +kernel
set_option maxRecDepth 100000 in
theorem tb_v_k_readGrants0 : ∀ w ∈ v_k_readGrants0, w ∈ lw_tbl := fun w h => (List.mem_cons.mp h).elim (fun e => by rw [e]; decide +kernel) (fun h => (List.mem_append.mp h).elim (tk_k_readGrants0 w) (fun h => (List.mem_append.mp h).elim (tb_wsX40 w) (fun h => (List.mem_append.mp h).elim (tb_v_k_Plan_clear w) (fun h => (List.mem_append.mp h).elim (tb_wsX100 w) (fun h => nomatch h)))))
set_option maxRecDepth 100000 in
theorem tb_at_X4_89 : ∀ w ∈ at_X4_89, w ∈ lw_tbl := by decide +kernel
set_option maxRecDepth 100000 in
theorem tk_x_refuse : ∀ w ∈ lk_x_refuse, w ∈ lw_tbl := by decide +kernel
set_option maxRecDepth 100000 in
theorem tb_v_x_refuse : ∀ w ∈ v_x_refuse, w ∈ lw_tbl := fun w h => (List.mem_cons.mp h).elim (fun e => by rw [e]; decide +kernel) (fun h => (List.mem_append.mp h).elim (tk_x_refuse w) (fun h => (List.mem_append.mp h).elim (tb_wsX40 w) (fun h => (List.mem_append.mp h).elim (tb_at_X4_89 w) (fun h => nomatch h))))
set_option maxRecDepth 100000 in
theorem tk_x_need : ∀ w ∈ lk_x_need, w ∈ lw_tbl := by decide +kernel
set_option maxRecDepth 100000 in
theorem tb_v_x_need : ∀ w ∈ v_x_need, w ∈ lw_tbl := fun w h => (List.mem_cons.mp h).elim (fun e => by rw [e]; decide +kernel) (fun h => (List.mem_append.mp h).elim (tk_x_need w) (fun h => (List.mem_append.mp h).elim (tb_wsX40 w) (fun h => (List.mem_append.mp h).elim (tb_wsX100 w) (fun h => (List.mem_append.mp h).elim (tb_v_x_refuse w) (fun h => nomatch h)))))
set_option maxRecDepth 100000 in
theorem tk_x_hasModule : ∀ w ∈ lk_x_hasModule, w ∈ lw_tbl := by decide +kernel
set_option maxRecDepth 100000 in
theorem tb_v_x_hasModule : ∀ w ∈ v_x_hasModule, w ∈ lw_tbl := fun w h => (List.mem_cons.mp h).elim (fun e => by rw [e]; decide +kernel) (fun h => (List.mem_append.mp h).elim (tk_x_hasModule w) (fun h => (List.mem_append.mp h).elim (tb_wsX40 w) (fun h => (List.mem_append.mp h).elim (tb_wsX100 w) (fun h => (List.mem_append.mp h).elim (tb_wsX20 w) (fun h => (List.mem_append.mp h).elim (tb_v_x_need w) (fun h => nomatch h))))))
set_option maxRecDepth 100000 in
theorem tk_x_program : ∀ w ∈ lk_x_program, w ∈ lw_tbl := by decide +kernel
set_option maxRecDepth 100000 in
theorem tb_v_x_program : ∀ w ∈ v_x_program, w ∈ lw_tbl := fun w h => (List.mem_cons.mp h).elim (fun e => by rw [e]; decide +kernel) (fun h => (List.mem_append.mp h).elim (tk_x_program w) (fun h => (List.mem_append.mp h).elim (tb_wsX110 w) (fun h => (List.mem_append.mp h).elim (tb_v_k_Machine_forget w) (fun h => (List.mem_append.mp h).elim (tb_v_k_Survey_forget w) (fun h => (List.mem_append.mp h).elim (tb_v_w_begin0 w) (fun h => (List.mem_append.mp h).elim (tb_v_k_readGrants0 w) (fun h => (List.mem_append.mp h).elim (tb_v_x_hasModule w) (fun h => nomatch h))))))))
set_option maxRecDepth 100000 in
theorem tb_at_X11_210 : ∀ w ∈ at_X11_210, w ∈ lw_tbl := by decide +kernel
set_option maxRecDepth 100000 in
theorem tk_x_run : ∀ w ∈ lk_x_run, w ∈ lw_tbl := by decide +kernel
set_option maxRecDepth 100000 in
theorem tb_v_x_run : ∀ w ∈ v_x_run, w ∈ lw_tbl := fun w h => (List.mem_cons.mp h).elim (fun e => by rw [e]; decide +kernel) (fun h => (List.mem_append.mp h).elim (tk_x_run w) (fun h => (List.mem_append.mp h).elim (tb_wsX110 w) (fun h => (List.mem_append.mp h).elim (tb_at_X11_210 w) (fun h => nomatch h))))
set_option maxRecDepth 100000 in
theorem tk_k_isKey_no : ∀ w ∈ lk_k_isKey_no, w ∈ lw_tbl := by decide +kernel
set_option maxRecDepth 100000 in
theorem tb_v_k_isKey_no : ∀ w ∈ v_k_isKey_no, w ∈ lw_tbl := fun w h => (List.mem_cons.mp h).elim (fun e => by rw [e]; decide +kernel) (fun h => (List.mem_append.mp h).elim (tk_k_isKey_no w) (fun h => (List.mem_append.mp h).elim (tb_v_k_isFine1 w) (fun h => (List.mem_append.mp h).elim (tb_wsX120 w) (fun h => nomatch h))))
set_option maxRecDepth 100000 in
theorem tk_k_failsAt : ∀ w ∈ lk_k_failsAt, w ∈ lw_tbl := by decide +kernel
set_option maxRecDepth 100000 in
theorem tb_v_k_failsAt : ∀ w ∈ v_k_failsAt, w ∈ lw_tbl := fun w h => (List.mem_cons.mp h).elim (fun e => by rw [e]; decide +kernel) (fun h => (List.mem_append.mp h).elim (tk_k_failsAt w) (fun h => (List.mem_append.mp h).elim (tb_wsX120 w) (fun h => nomatch h)))
set_option maxRecDepth 100000 in
theorem tk_k_misfit_end : ∀ w ∈ lk_k_misfit_end, w ∈ lw_tbl := by decide +kernel
set_option maxRecDepth 100000 in
theorem tb_v_k_misfit_end : ∀ w ∈ v_k_misfit_end, w ∈ lw_tbl := fun w h => (List.mem_cons.mp h).elim (fun e => by rw [e]; decide +kernel) (fun h => (List.mem_append.mp h).elim (tk_k_misfit_end w) (fun h => (List.mem_append.mp h).elim (tb_wsX120 w) (fun h => (List.mem_append.mp h).elim (tb_v_k_failsAt w) (fun h => nomatch h))))
set_option maxRecDepth 100000 in
theorem tk_k_key_end : ∀ w ∈ lk_k_key_end, w ∈ lw_tbl := by decide +kernel
set_option maxRecDepth 100000 in
theorem tb_v_k_key_end : ∀ w ∈ v_k_key_end, w ∈ lw_tbl := fun w h => (List.mem_cons.mp h).elim (fun e => by rw [e]; decide +kernel) (fun h => (List.mem_append.mp h).elim (tk_k_key_end w) (fun h => (List.mem_append.mp h).elim (tb_v_k_isKey_no w) (fun h => (List.mem_append.mp h).elim (tb_v_k_isFine1 w) (fun h => (List.mem_append.mp h).elim (tb_v_k_misfit_end w) (fun h => nomatch h)))))
set_option maxRecDepth 100000 in
theorem tk_k_isFine0 : ∀ w ∈ lk_k_isFine0, w ∈ lw_tbl := by decide +kernel
set_option maxRecDepth 100000 in
theorem tb_v_k_isFine0 : ∀ w ∈ v_k_isFine0, w ∈ lw_tbl := fun w h => (List.mem_cons.mp h).elim (fun e => by rw [e]; decide +kernel) (fun h => (List.mem_append.mp h).elim (tk_k_isFine0 w) (fun h => (List.mem_append.mp h).elim (tb_wsX120 w) (fun h => nomatch h)))
set_option maxRecDepth 100000 in
theorem tk_k_isName_no : ∀ w ∈ lk_k_isName_no, w ∈ lw_tbl := by decide +kernel
set_option maxRecDepth 100000 in
theorem tb_v_k_isName_no : ∀ w ∈ v_k_isName_no, w ∈ lw_tbl := fun w h => (List.mem_cons.mp h).elim (fun e => by rw [e]; decide +kernel) (fun h => (List.mem_append.mp h).elim (tk_k_isName_no w) (fun h => (List.mem_append.mp h).elim (tb_v_k_isFine0 w) (fun h => nomatch h)))
set_option maxRecDepth 100000 in
theorem tk_k_readModule_end : ∀ w ∈ lk_k_readModule_end, w ∈ lw_tbl := by decide +kernel
set_option maxRecDepth 100000 in
theorem tb_v_k_readModule_end : ∀ w ∈ v_k_readModule_end, w ∈ lw_tbl := fun w h => (List.mem_cons.mp h).elim (fun e => by rw [e]; decide +kernel) (fun h => (List.mem_append.mp h).elim (tk_k_readModule_end w) (fun h => (List.mem_append.mp h).elim (tb_v_k_key_end w) (fun h => (List.mem_append.mp h).elim (tb_v_k_isName_no w) (fun h => nomatch h))))
set_option maxRecDepth 100000 in
theorem tk_k_readAll_end : ∀ w ∈ lk_k_readAll_end, w ∈ lw_tbl := by decide +kernel
set_option maxRecDepth 100000 in
theorem tb_v_k_readAll_end : ∀ w ∈ v_k_readAll_end, w ∈ lw_tbl := fun w h => (List.mem_cons.mp h).elim (fun e => by rw [e]; decide +kernel) (fun h => (List.mem_append.mp h).elim (tk_k_readAll_end w) (fun h => (List.mem_append.mp h).elim (tb_v_k_isKey_no w) (fun h => (List.mem_append.mp h).elim (tb_v_k_readModule_end w) (fun h => (List.mem_append.mp h).elim (tb_v_k_isFine0 w) (fun h => nomatch h)))))
set_option maxRecDepth 100000 in
theorem tk_f_Mprogram : ∀ w ∈ lk_f_Mprogram, w ∈ lw_tbl := by decide +kernel
set_option maxRecDepth 100000 in
theorem tb_v_f_Mprogram : ∀ w ∈ v_f_Mprogram, w ∈ lw_tbl := fun w h => (List.mem_cons.mp h).elim (fun e => by rw [e]; decide +kernel) (fun h => (List.mem_append.mp h).elim (tk_f_Mprogram w) (fun h => (List.mem_append.mp h).elim (tb_wsX120 w) (fun h => (List.mem_append.mp h).elim (tb_v_k_next_end w) (fun h => (List.mem_append.mp h).elim (tb_v_k_readAll_end w) (fun h => (List.mem_append.mp h).elim (tb_v_k_isFine0 w) (fun h => nomatch h))))))
set_option maxRecDepth 100000 in
theorem tk_f_Mrun : ∀ w ∈ lk_f_Mrun, w ∈ lw_tbl := by decide +kernel
set_option maxRecDepth 100000 in
theorem tb_v_f_Mrun : ∀ w ∈ v_f_Mrun, w ∈ lw_tbl := fun w h => (List.mem_cons.mp h).elim (fun e => by rw [e]; decide +kernel) (fun h => (List.mem_append.mp h).elim (tk_f_Mrun w) (fun h => (List.mem_append.mp h).elim (tb_wsX120 w) (fun h => nomatch h)))
set_option maxRecDepth 100000 in
theorem tk_k_thrown : ∀ w ∈ lk_k_thrown, w ∈ lw_tbl := by decide +kernel
set_option maxRecDepth 100000 in
theorem tb_v_k_thrown : ∀ w ∈ v_k_thrown, w ∈ lw_tbl := fun w h => (List.mem_cons.mp h).elim (fun e => by rw [e]; decide +kernel) (fun h => (List.mem_append.mp h).elim (tk_k_thrown w) (fun h => (List.mem_append.mp h).elim (tb_wsX120 w) (fun h => nomatch h)))
set_option maxRecDepth 100000 in
theorem tk_k_Model_init : ∀ w ∈ lk_k_Model_init, w ∈ lw_tbl := by decide +kernel
set_option maxRecDepth 100000 in
theorem tb_v_k_Model_init : ∀ w ∈ v_k_Model_init, w ∈ lw_tbl := fun w h => (List.mem_cons.mp h).elim (fun e => by rw [e]; decide +kernel) (fun h => (List.mem_append.mp h).elim (tk_k_Model_init w) (fun h => (List.mem_append.mp h).elim (tb_wsX120 w) (fun h => nomatch h)))
set_option maxRecDepth 100000 in
theorem tb_wsX11_init : ∀ w ∈ wsX11_init, w ∈ lw_tbl := by decide +kernel
set_option maxRecDepth 100000 in
theorem tb_v_Lprogram : ∀ w ∈ v_Lprogram, w ∈ lw_tbl := fun w h => (List.mem_cons.mp h).elim (fun e => by rw [e]; decide +kernel) (fun h => (List.mem_append.mp h).elim ((by decide +kernel : ∀ w ∈ lk_Lp, w ∈ lw_tbl) w) (fun h => (List.mem_append.mp h).elim (tb_v_x_program w) (fun h => nomatch h)))
set_option maxRecDepth 100000 in
theorem tb_v_Lrun : ∀ w ∈ v_Lrun, w ∈ lw_tbl := fun w h => (List.mem_cons.mp h).elim (fun e => by rw [e]; decide +kernel) (fun h => (List.mem_append.mp h).elim ((by decide +kernel : ∀ w ∈ lk_Lr, w ∈ lw_tbl) w) (fun h => (List.mem_append.mp h).elim (tb_v_x_run w) (fun h => nomatch h)))
theorem gd_wsX11_init : ∀ w ∈ wsX11_init, gdW w := gdW_of (by decide +kernel)
