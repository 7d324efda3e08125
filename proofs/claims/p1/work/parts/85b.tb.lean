set_option maxRecDepth 100000 in
theorem tk_f_code : ∀ w ∈ lk_f_code, w ∈ lw_tbl := mem_r [967, 969, 2, 250] (by decide +kernel)
set_option maxRecDepth 100000 in
theorem tb_v_f_code : ∀ w ∈ v_f_code, w ∈ lw_tbl := fun w h => (List.mem_cons.mp h).elim (fun e => by rw [e]; exact mi 983 (by decide +kernel)) (fun h => (List.mem_append.mp h).elim (tk_f_code w) (fun h => (List.mem_append.mp h).elim (tb_v_f_hasUnit w) (fun h => nomatch h)))
set_option maxRecDepth 100000 in
theorem tk_f_Mcode : ∀ w ∈ lk_f_Mcode, w ∈ lw_tbl := mem_r [2153, 2987, 2989, 203, 266] (by decide +kernel)
set_option maxRecDepth 100000 in
theorem tb_v_f_Mcode : ∀ w ∈ v_f_Mcode, w ∈ lw_tbl := fun w h => (List.mem_cons.mp h).elim (fun e => by rw [e]; exact mi 2994 (by decide +kernel)) (fun h => (List.mem_append.mp h).elim (tk_f_Mcode w) (fun h => (List.mem_append.mp h).elim (tb_wsX120 w) (fun h => (List.mem_append.mp h).elim (tb_v_k_isUnit_no w) (fun h => nomatch h))))
set_option maxRecDepth 100000 in
theorem tk_f_number : ∀ w ∈ lk_f_number, w ∈ lw_tbl := mem_r [908] (by decide +kernel)
set_option maxRecDepth 100000 in
theorem tb_v_f_number : ∀ w ∈ v_f_number, w ∈ lw_tbl := fun w h => (List.mem_cons.mp h).elim (fun e => by rw [e]; exact mi 991 (by decide +kernel)) (fun h => (List.mem_append.mp h).elim (tk_f_number w) (fun h => (List.mem_append.mp h).elim (tb_wsX110 w) (fun h => nomatch h)))
set_option maxRecDepth 100000 in
theorem tk_f_Mnumber : ∀ w ∈ lk_f_Mnumber, w ∈ lw_tbl := mem_r [2153, 2158] (by decide +kernel)
set_option maxRecDepth 100000 in
theorem tb_v_f_Mnumber : ∀ w ∈ v_f_Mnumber, w ∈ lw_tbl := fun w h => (List.mem_cons.mp h).elim (fun e => by rw [e]; exact mi 2998 (by decide +kernel)) (fun h => (List.mem_append.mp h).elim (tk_f_Mnumber w) (fun h => (List.mem_append.mp h).elim (tb_wsX120 w) (fun h => nomatch h)))
set_option maxRecDepth 100000 in
theorem tk_f_domain : ∀ w ∈ lk_f_domain, w ∈ lw_tbl := mem_r [908] (by decide +kernel)
set_option maxRecDepth 100000 in
theorem tb_v_f_domain : ∀ w ∈ v_f_domain, w ∈ lw_tbl := fun w h => (List.mem_cons.mp h).elim (fun e => by rw [e]; exact mi 999 (by decide +kernel)) (fun h => (List.mem_append.mp h).elim (tk_f_domain w) (fun h => (List.mem_append.mp h).elim (tb_wsX110 w) (fun h => nomatch h)))
set_option maxRecDepth 100000 in
theorem tk_f_Mdomain : ∀ w ∈ lk_f_Mdomain, w ∈ lw_tbl := mem_r [2153, 2158] (by decide +kernel)
set_option maxRecDepth 100000 in
theorem tb_v_f_Mdomain : ∀ w ∈ v_f_Mdomain, w ∈ lw_tbl := fun w h => (List.mem_cons.mp h).elim (fun e => by rw [e]; exact mi 3002 (by decide +kernel)) (fun h => (List.mem_append.mp h).elim (tk_f_Mdomain w) (fun h => (List.mem_append.mp h).elim (tb_wsX120 w) (fun h => nomatch h)))
set_option maxRecDepth 100000 in
theorem tb_wsX6_cut : ∀ w ∈ wsX6_cut, w ∈ lw_tbl := mem_r [1015, 297, 304, 306] (by decide +kernel)
set_option maxRecDepth 100000 in
theorem tk_w_skip_end : ∀ w ∈ lk_w_skip_end, w ∈ lw_tbl := mem_r [369, 367] (by decide +kernel)
set_option maxRecDepth 100000 in
theorem tb_v_w_skip_end : ∀ w ∈ v_w_skip_end, w ∈ lw_tbl := fun w h => (List.mem_cons.mp h).elim (fun e => by rw [e]; exact mi 1023 (by decide +kernel)) (fun h => (List.mem_append.mp h).elim (tk_w_skip_end w) (fun h => (List.mem_append.mp h).elim (tb_wsX100 w) (fun h => nomatch h)))
set_option maxRecDepth 100000 in
theorem tk_w_byteAt_out : ∀ w ∈ lk_w_byteAt_out, w ∈ lw_tbl := mem_r [367] (by decide +kernel)
set_option maxRecDepth 100000 in
theorem tb_v_w_byteAt_out : ∀ w ∈ v_w_byteAt_out, w ∈ lw_tbl := fun w h => (List.mem_cons.mp h).elim (fun e => by rw [e]; exact mi 1027 (by decide +kernel)) (fun h => (List.mem_append.mp h).elim (tk_w_byteAt_out w) (fun h => (List.mem_append.mp h).elim (tb_wsX100 w) (fun h => nomatch h)))
set_option maxRecDepth 100000 in
theorem tb_wsX6_add : ∀ w ∈ wsX6_add, w ∈ lw_tbl := mem_r [1035, 297, 1036, 296, 1037, 1038, 267, 1039, 1040, 1041, 1042, 1043, 1044, 1046, 310, 1047, 1048, 268, 1049, 1050, 1052, 1051, 269, 304, 306] (by decide +kernel)
set_option maxRecDepth 100000 in
theorem tk_w_addWord : ∀ w ∈ lk_w_addWord, w ∈ lw_tbl := mem_r [364, 1032, 1033, 1034, 252] (by decide +kernel)
set_option maxRecDepth 100000 in
theorem tb_v_w_addWord : ∀ w ∈ v_w_addWord, w ∈ lw_tbl := fun w h => (List.mem_cons.mp h).elim (fun e => by rw [e]; exact mi 1031 (by decide +kernel)) (fun h => (List.mem_append.mp h).elim (tk_w_addWord w) (fun h => (List.mem_append.mp h).elim (tb_wsX100 w) (fun h => (List.mem_append.mp h).elim (tb_wsX6_add w) (fun h => nomatch h))))
set_option maxRecDepth 100000 in
theorem tb_wsX6_at : ∀ w ∈ wsX6_at, w ∈ lw_tbl := mem_r [987, 297, 296, 304, 306] (by decide +kernel)
set_option maxRecDepth 100000 in
theorem tk_w_findWord0 : ∀ w ∈ lk_w_findWord0, w ∈ lw_tbl := mem_r [1020, 1022, 4, 251, 369, 1024, 1026, 5, 1028, 1030, 6, 364, 302, 1148, 985, 986, 252] (by decide +kernel)
set_option maxRecDepth 100000 in
theorem tb_v_w_findWord0 : ∀ w ∈ v_w_findWord0, w ∈ lw_tbl := fun w h => (List.mem_cons.mp h).elim (fun e => by rw [e]; exact mi 1019 (by decide +kernel)) (fun h => (List.mem_append.mp h).elim (tk_w_findWord0 w) (fun h => (List.mem_append.mp h).elim (tb_v_w_skip_end w) (fun h => (List.mem_append.mp h).elim (tb_wsX100 w) (fun h => (List.mem_append.mp h).elim (tb_v_w_byteAt_out w) (fun h => (List.mem_append.mp h).elim (tb_v_w_addWord w) (fun h => (List.mem_append.mp h).elim (tb_wsX60 w) (fun h => (List.mem_append.mp h).elim (tb_wsX6_at w) (fun h => nomatch h))))))))
set_option maxRecDepth 100000 in
theorem tb_wsX6_get : ∀ w ∈ wsX6_get, w ∈ lw_tbl := mem_r [1156, 297, 296, 304, 306] (by decide +kernel)
set_option maxRecDepth 100000 in
theorem tk_w_advance0 : ∀ w ∈ lk_w_advance0, w ∈ lw_tbl := mem_r [364, 370, 1148, 985, 986, 252, 372, 375, 1153, 1154, 1155, 376] (by decide +kernel)
set_option maxRecDepth 100000 in
theorem tb_v_w_advance0 : ∀ w ∈ v_w_advance0, w ∈ lw_tbl := fun w h => (List.mem_cons.mp h).elim (fun e => by rw [e]; exact mi 1152 (by decide +kernel)) (fun h => (List.mem_append.mp h).elim (tk_w_advance0 w) (fun h => (List.mem_append.mp h).elim (tb_wsX100 w) (fun h => (List.mem_append.mp h).elim (tb_wsX6_at w) (fun h => (List.mem_append.mp h).elim (tb_wsX6_get w) (fun h => nomatch h)))))
set_option maxRecDepth 100000 in
theorem tk_w_begin0 : ∀ w ∈ lk_w_begin0, w ∈ lw_tbl := mem_r [366, 367, 368, 369, 370, 364, 1012, 1013, 1014, 252, 365, 1016, 1018, 3, 251, 1149, 1150, 1151] (by decide +kernel)
set_option maxRecDepth 100000 in
theorem tb_v_w_begin0 : ∀ w ∈ v_w_begin0, w ∈ lw_tbl := fun w h => (List.mem_cons.mp h).elim (fun e => by rw [e]; exact mi 1011 (by decide +kernel)) (fun h => (List.mem_append.mp h).elim (tk_w_begin0 w) (fun h => (List.mem_append.mp h).elim (tb_wsX100 w) (fun h => (List.mem_append.mp h).elim (tb_wsX6_cut w) (fun h => (List.mem_append.mp h).elim (tb_v_w_findWord0 w) (fun h => (List.mem_append.mp h).elim (tb_v_w_advance0 w) (fun h => nomatch h))))))
