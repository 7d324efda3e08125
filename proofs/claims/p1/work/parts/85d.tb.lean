set_option maxRecDepth 100000 in
theorem tk_f_Mthread : ∀ w ∈ lk_f_Mthread, w ∈ lw_tbl := mem_r [2153, 2238] (by decide +kernel)
set_option maxRecDepth 100000 in
theorem tb_v_f_Mthread : ∀ w ∈ v_f_Mthread, w ∈ lw_tbl := fun w h => (List.mem_cons.mp h).elim (fun e => by rw [e]; exact mi 3214 (by decide +kernel)) (fun h => (List.mem_append.mp h).elim (tk_f_Mthread w) (fun h => (List.mem_append.mp h).elim (tb_wsX120 w) (fun h => nomatch h)))
set_option maxRecDepth 100000 in
theorem tk_f_context : ∀ w ∈ lk_f_context, w ∈ lw_tbl := mem_r [905, 854] (by decide +kernel)
set_option maxRecDepth 100000 in
theorem tb_v_f_context : ∀ w ∈ v_f_context, w ∈ lw_tbl := fun w h => (List.mem_cons.mp h).elim (fun e => by rw [e]; exact mi 1306 (by decide +kernel)) (fun h => (List.mem_append.mp h).elim (tk_f_context w) (fun h => (List.mem_append.mp h).elim (tb_wsX110 w) (fun h => (List.mem_append.mp h).elim (tb_wsX10 w) (fun h => nomatch h))))
set_option maxRecDepth 100000 in
theorem tk_f_Mcontext : ∀ w ∈ lk_f_Mcontext, w ∈ lw_tbl := mem_r [2153, 2238] (by decide +kernel)
set_option maxRecDepth 100000 in
theorem tb_v_f_Mcontext : ∀ w ∈ v_f_Mcontext, w ∈ lw_tbl := fun w h => (List.mem_cons.mp h).elim (fun e => by rw [e]; exact mi 3218 (by decide +kernel)) (fun h => (List.mem_append.mp h).elim (tk_f_Mcontext w) (fun h => (List.mem_append.mp h).elim (tb_wsX120 w) (fun h => nomatch h)))
set_option maxRecDepth 100000 in
theorem tk_k_Machine_forget : ∀ w ∈ lk_k_Machine_forget, w ∈ lw_tbl := mem_r [853] (by decide +kernel)
set_option maxRecDepth 100000 in
theorem tb_v_k_Machine_forget : ∀ w ∈ v_k_Machine_forget, w ∈ lw_tbl := fun w h => (List.mem_cons.mp h).elim (fun e => by rw [e]; exact mi 1331 (by decide +kernel)) (fun h => (List.mem_append.mp h).elim (tk_k_Machine_forget w) (fun h => (List.mem_append.mp h).elim (tb_wsX10 w) (fun h => nomatch h)))
set_option maxRecDepth 100000 in
theorem tk_k_Survey_forget : ∀ w ∈ lk_k_Survey_forget, w ∈ lw_tbl := mem_r [713] (by decide +kernel)
set_option maxRecDepth 100000 in
theorem tb_v_k_Survey_forget : ∀ w ∈ v_k_Survey_forget, w ∈ lw_tbl := fun w h => (List.mem_cons.mp h).elim (fun e => by rw [e]; exact mi 1177 (by decide +kernel)) (fun h => (List.mem_append.mp h).elim (tk_k_Survey_forget w) (fun h => (List.mem_append.mp h).elim (tb_wsX80 w) (fun h => nomatch h)))
set_option maxRecDepth 100000 in
theorem tk_k_Policy_clear : ∀ w ∈ lk_k_Policy_clear, w ∈ lw_tbl := mem_r [447, 449, 453, 456] (by decide +kernel)
set_option maxRecDepth 100000 in
theorem tb_v_k_Policy_clear : ∀ w ∈ v_k_Policy_clear, w ∈ lw_tbl := fun w h => (List.mem_cons.mp h).elim (fun e => by rw [e]; exact mi 1343 (by decide +kernel)) (fun h => (List.mem_append.mp h).elim (tk_k_Policy_clear w) (fun h => (List.mem_append.mp h).elim (tb_wsX30 w) (fun h => nomatch h)))
set_option maxRecDepth 100000 in
theorem tk_k_Plan_clear : ∀ w ∈ lk_k_Plan_clear, w ∈ lw_tbl := mem_r [595, 1340, 1341, 1342, 257, 597, 608, 612, 614] (by decide +kernel)
set_option maxRecDepth 100000 in
theorem tb_v_k_Plan_clear : ∀ w ∈ v_k_Plan_clear, w ∈ lw_tbl := fun w h => (List.mem_cons.mp h).elim (fun e => by rw [e]; exact mi 1339 (by decide +kernel)) (fun h => (List.mem_append.mp h).elim (tk_k_Plan_clear w) (fun h => (List.mem_append.mp h).elim (tb_wsX20 w) (fun h => (List.mem_append.mp h).elim (tb_v_k_Policy_clear w) (fun h => nomatch h))))
set_option maxRecDepth 100000 in
theorem tk_k_readGrants0 : ∀ w ∈ lk_k_readGrants0, w ∈ lw_tbl := mem_r [662, 1336, 1337, 1338, 259, 671, 667, 672, 674, 661, 371] (by decide +kernel)
set_option maxRecDepth 100000 in
theorem tb_v_k_readGrants0 : ∀ w ∈ v_k_readGrants0, w ∈ lw_tbl := fun w h => (List.mem_cons.mp h).elim (fun e => by rw [e]; exact mi 1335 (by decide +kernel)) (fun h => (List.mem_append.mp h).elim (tk_k_readGrants0 w) (fun h => (List.mem_append.mp h).elim (tb_wsX40 w) (fun h => (List.mem_append.mp h).elim (tb_v_k_Plan_clear w) (fun h => (List.mem_append.mp h).elim (tb_wsX100 w) (fun h => nomatch h)))))
set_option maxRecDepth 100000 in
theorem tb_at_X4_89 : ∀ w ∈ at_X4_89, w ∈ lw_tbl := by decide +kernel
set_option maxRecDepth 100000 in
theorem tk_x_refuse : ∀ w ∈ lk_x_refuse, w ∈ lw_tbl := mem_r [672, 674, 1352, 274] (by decide +kernel)
set_option maxRecDepth 100000 in
theorem tb_v_x_refuse : ∀ w ∈ v_x_refuse, w ∈ lw_tbl := fun w h => (List.mem_cons.mp h).elim (fun e => by rw [e]; exact mi 1351 (by decide +kernel)) (fun h => (List.mem_append.mp h).elim (tk_x_refuse w) (fun h => (List.mem_append.mp h).elim (tb_wsX40 w) (fun h => (List.mem_append.mp h).elim (tb_at_X4_89 w) (fun h => nomatch h))))
set_option maxRecDepth 100000 in
theorem tk_x_need : ∀ w ∈ lk_x_need, w ∈ lw_tbl := mem_r [661, 374, 1348, 1350, 22, 261] (by decide +kernel)
set_option maxRecDepth 100000 in
theorem tb_v_x_need : ∀ w ∈ v_x_need, w ∈ lw_tbl := fun w h => (List.mem_cons.mp h).elim (fun e => by rw [e]; exact mi 1430 (by decide +kernel)) (fun h => (List.mem_append.mp h).elim (tk_x_need w) (fun h => (List.mem_append.mp h).elim (tb_wsX40 w) (fun h => (List.mem_append.mp h).elim (tb_wsX100 w) (fun h => (List.mem_append.mp h).elim (tb_v_x_refuse w) (fun h => nomatch h)))))
set_option maxRecDepth 100000 in
theorem tk_x_hasModule : ∀ w ∈ lk_x_hasModule, w ∈ lw_tbl := mem_r [661, 371, 662, 609, 1427, 1429, 26, 261] (by decide +kernel)
set_option maxRecDepth 100000 in
theorem tb_v_x_hasModule : ∀ w ∈ v_x_hasModule, w ∈ lw_tbl := fun w h => (List.mem_cons.mp h).elim (fun e => by rw [e]; exact mi 1465 (by decide +kernel)) (fun h => (List.mem_append.mp h).elim (tk_x_hasModule w) (fun h => (List.mem_append.mp h).elim (tb_wsX40 w) (fun h => (List.mem_append.mp h).elim (tb_wsX100 w) (fun h => (List.mem_append.mp h).elim (tb_wsX20 w) (fun h => (List.mem_append.mp h).elim (tb_v_x_need w) (fun h => nomatch h))))))
set_option maxRecDepth 100000 in
theorem tk_x_program : ∀ w ∈ lk_x_program, w ∈ lw_tbl := mem_r [899, 908, 905, 1328, 1329, 1330, 263, 904, 1174, 1175, 1176, 262, 900, 898, 1008, 1009, 1010, 251, 903, 1332, 1333, 1334, 261, 1462, 1463, 1464] (by decide +kernel)
set_option maxRecDepth 100000 in
theorem tb_v_x_program : ∀ w ∈ v_x_program, w ∈ lw_tbl := fun w h => (List.mem_cons.mp h).elim (fun e => by rw [e]; exact mi 1327 (by decide +kernel)) (fun h => (List.mem_append.mp h).elim (tk_x_program w) (fun h => (List.mem_append.mp h).elim (tb_wsX110 w) (fun h => (List.mem_append.mp h).elim (tb_v_k_Machine_forget w) (fun h => (List.mem_append.mp h).elim (tb_v_k_Survey_forget w) (fun h => (List.mem_append.mp h).elim (tb_v_w_begin0 w) (fun h => (List.mem_append.mp h).elim (tb_v_k_readGrants0 w) (fun h => (List.mem_append.mp h).elim (tb_v_x_hasModule w) (fun h => nomatch h))))))))
set_option maxRecDepth 100000 in
theorem tb_at_X11_210 : ∀ w ∈ at_X11_210, w ∈ lw_tbl := by decide +kernel
set_option maxRecDepth 100000 in
theorem tk_x_run : ∀ w ∈ lk_x_run, w ∈ lw_tbl := mem_r [908, 1799, 275] (by decide +kernel)
set_option maxRecDepth 100000 in
theorem tb_v_x_run : ∀ w ∈ v_x_run, w ∈ lw_tbl := fun w h => (List.mem_cons.mp h).elim (fun e => by rw [e]; exact mi 1798 (by decide +kernel)) (fun h => (List.mem_append.mp h).elim (tk_x_run w) (fun h => (List.mem_append.mp h).elim (tb_wsX110 w) (fun h => (List.mem_append.mp h).elim (tb_at_X11_210 w) (fun h => nomatch h))))
