set_option maxRecDepth 100000 in
theorem gl_25_v_f_feed : GoodIn lw_tbl (wsV RL 25 RX11 yX11_feed v_f_feed) := goodIn_app (goodIn_sub (mem_r [935, 936, 937, 250] (by decide +kernel)) (by decide +kernel)) (fun w h => ⟨tb_v_f_feed w h, gd_v_f_feed w h⟩)
set_option maxRecDepth 100000 in
theorem gl_29_v_f_Mfeed : GoodIn lw_tbl (wsV RL 29 RX12 yX12_feed v_f_Mfeed) := goodIn_app (goodIn_sub (mem_r [2568, 2569, 2570, 266] (by decide +kernel)) (by decide +kernel)) (fun w h => ⟨tb_v_f_Mfeed w h, gd_v_f_Mfeed w h⟩)
set_option maxRecDepth 100000 in
theorem gl_30_v_f_end : GoodIn lw_tbl (wsV RL 30 RX11 yX11_end v_f_end) := goodIn_app (goodIn_sub (mem_r [943, 944, 945, 250] (by decide +kernel)) (by decide +kernel)) (fun w h => ⟨tb_v_f_end w h, gd_v_f_end w h⟩)
set_option maxRecDepth 100000 in
theorem gl_34_v_f_Mend : GoodIn lw_tbl (wsV RL 34 RX12 yX12_end v_f_Mend) := goodIn_app (goodIn_sub (mem_r [2572, 2573, 2574, 266] (by decide +kernel)) (by decide +kernel)) (fun w h => ⟨tb_v_f_Mend w h, gd_v_f_Mend w h⟩)
set_option maxRecDepth 100000 in
theorem gl_35_v_Lprogram : GoodIn lw_tbl (va_wsS RL 35 yL_program v_Lprogram) := goodIn_app (goodIn_sub (mem_r [1320, 1321, 249] (by decide +kernel)) (by decide +kernel)) (fun w h => ⟨tb_v_Lprogram w h, gd_v_Lprogram w h⟩)
set_option maxRecDepth 100000 in
theorem gl_40_v_f_Mprogram : GoodIn lw_tbl (wsV RL 40 RX12 yX12_program v_f_Mprogram) := goodIn_app (goodIn_sub (mem_r [2579, 2580, 2581, 266] (by decide +kernel)) (by decide +kernel)) (fun w h => ⟨tb_v_f_Mprogram w h, gd_v_f_Mprogram w h⟩)
set_option maxRecDepth 100000 in
theorem gl_41_v_k_thrown : GoodIn lw_tbl (wsV RL 41 RX12 yX12_thrown v_k_thrown) := goodIn_app (goodIn_sub (mem_r [2564, 2565, 2566, 266] (by decide +kernel)) (by decide +kernel)) (fun w h => ⟨tb_v_k_thrown w h, gd_v_k_thrown w h⟩)
set_option maxRecDepth 100000 in
theorem gl_44_v_f_fault : GoodIn lw_tbl (wsV RL 44 RX11 yX11_fault v_f_fault) := goodIn_app (goodIn_sub (mem_r [947, 948, 949, 250] (by decide +kernel)) (by decide +kernel)) (fun w h => ⟨tb_v_f_fault w h, gd_v_f_fault w h⟩)
set_option maxRecDepth 100000 in
theorem gl_48_v_f_Mfault : GoodIn lw_tbl (wsV RL 48 RX12 yX12_fault v_f_Mfault) := goodIn_app (goodIn_sub (mem_r [2974, 2975, 2976, 266] (by decide +kernel)) (by decide +kernel)) (fun w h => ⟨tb_v_f_Mfault w h, gd_v_f_Mfault w h⟩)
set_option maxRecDepth 100000 in
theorem gl_49_v_f_count : GoodIn lw_tbl (wsV RL 49 RX11 yX11_count v_f_count) := goodIn_app (goodIn_sub (mem_r [951, 952, 953, 250] (by decide +kernel)) (by decide +kernel)) (fun w h => ⟨tb_v_f_count w h, gd_v_f_count w h⟩)
set_option maxRecDepth 100000 in
theorem gl_52_v_f_Mcount : GoodIn lw_tbl (wsV RL 52 RX12 yX12_count v_f_Mcount) := goodIn_app (goodIn_sub (mem_r [2978, 2979, 2980, 266] (by decide +kernel)) (by decide +kernel)) (fun w h => ⟨tb_v_f_Mcount w h, gd_v_f_Mcount w h⟩)
set_option maxRecDepth 100000 in
theorem gl_53_v_f_unit : GoodIn lw_tbl (wsV RL 53 RX11 yX11_unit v_f_unit) := goodIn_app (goodIn_sub (mem_r [963, 964, 965, 250] (by decide +kernel)) (by decide +kernel)) (fun w h => ⟨tb_v_f_unit w h, gd_v_f_unit w h⟩)
set_option maxRecDepth 100000 in
theorem gl_57_v_f_Munit : GoodIn lw_tbl (wsV RL 57 RX12 yX12_unit v_f_Munit) := goodIn_app (goodIn_sub (mem_r [2983, 2984, 2985, 266] (by decide +kernel)) (by decide +kernel)) (fun w h => ⟨tb_v_f_Munit w h, gd_v_f_Munit w h⟩)
set_option maxRecDepth 100000 in
theorem gl_58_v_f_code : GoodIn lw_tbl (wsV RL 58 RX11 yX11_code v_f_code) := goodIn_app (goodIn_sub (mem_r [980, 981, 982, 250] (by decide +kernel)) (by decide +kernel)) (fun w h => ⟨tb_v_f_code w h, gd_v_f_code w h⟩)
set_option maxRecDepth 100000 in
theorem gl_62_v_f_Mcode : GoodIn lw_tbl (wsV RL 62 RX12 yX12_code v_f_Mcode) := goodIn_app (goodIn_sub (mem_r [2991, 2992, 2993, 266] (by decide +kernel)) (by decide +kernel)) (fun w h => ⟨tb_v_f_Mcode w h, gd_v_f_Mcode w h⟩)
set_option maxRecDepth 100000 in
theorem gl_63_v_f_number : GoodIn lw_tbl (wsV RL 63 RX11 yX11_number v_f_number) := goodIn_app (goodIn_sub (mem_r [988, 989, 990, 250] (by decide +kernel)) (by decide +kernel)) (fun w h => ⟨tb_v_f_number w h, gd_v_f_number w h⟩)
set_option maxRecDepth 100000 in
theorem gl_66_v_f_Mnumber : GoodIn lw_tbl (wsV RL 66 RX12 yX12_number v_f_Mnumber) := goodIn_app (goodIn_sub (mem_r [2995, 2996, 2997, 266] (by decide +kernel)) (by decide +kernel)) (fun w h => ⟨tb_v_f_Mnumber w h, gd_v_f_Mnumber w h⟩)
set_option maxRecDepth 100000 in
theorem gl_67_v_f_domain : GoodIn lw_tbl (wsV RL 67 RX11 yX11_domain v_f_domain) := goodIn_app (goodIn_sub (mem_r [996, 997, 998, 250] (by decide +kernel)) (by decide +kernel)) (fun w h => ⟨tb_v_f_domain w h, gd_v_f_domain w h⟩)
set_option maxRecDepth 100000 in
theorem gl_70_v_f_Mdomain : GoodIn lw_tbl (wsV RL 70 RX12 yX12_domain v_f_Mdomain) := goodIn_app (goodIn_sub (mem_r [2999, 3000, 3001, 266] (by decide +kernel)) (by decide +kernel)) (fun w h => ⟨tb_v_f_Mdomain w h, gd_v_f_Mdomain w h⟩)
set_option maxRecDepth 100000 in
theorem gl_71_v_f_asks : GoodIn lw_tbl (wsV RL 71 RX11 yX11_asks v_f_asks) := goodIn_app (goodIn_sub (mem_r [1004, 1005, 1006, 250] (by decide +kernel)) (by decide +kernel)) (fun w h => ⟨tb_v_f_asks w h, gd_v_f_asks w h⟩)
set_option maxRecDepth 100000 in
theorem gl_75_v_f_Masks : GoodIn lw_tbl (wsV RL 75 RX12 yX12_asks v_f_Masks) := goodIn_app (goodIn_sub (mem_r [3003, 3004, 3005, 266] (by decide +kernel)) (by decide +kernel)) (fun w h => ⟨tb_v_f_Masks w h, gd_v_f_Masks w h⟩)
set_option maxRecDepth 100000 in
theorem gl_76_v_f_has : GoodIn lw_tbl (wsV RL 76 RX11 yX11_has v_f_has) := goodIn_app (goodIn_sub (mem_r [1178, 1179, 1180, 250] (by decide +kernel)) (by decide +kernel)) (fun w h => ⟨tb_v_f_has w h, gd_v_f_has w h⟩)
set_option maxRecDepth 100000 in
theorem gl_80_v_f_Mhas : GoodIn lw_tbl (wsV RL 80 RX12 yX12_has v_f_Mhas) := goodIn_app (goodIn_sub (mem_r [3007, 3008, 3009, 266] (by decide +kernel)) (by decide +kernel)) (fun w h => ⟨tb_v_f_Mhas w h, gd_v_f_Mhas w h⟩)
set_option maxRecDepth 100000 in
theorem gl_81_v_f_may : GoodIn lw_tbl (wsV RL 81 RX11 yX11_may v_f_may) := goodIn_app (goodIn_sub (mem_r [1194, 1195, 1196, 250] (by decide +kernel)) (by decide +kernel)) (fun w h => ⟨tb_v_f_may w h, gd_v_f_may w h⟩)
set_option maxRecDepth 100000 in
theorem gl_84_v_f_Mmay : GoodIn lw_tbl (wsV RL 84 RX12 yX12_may v_f_Mmay) := goodIn_app (goodIn_sub (mem_r [3023, 3024, 3025, 266] (by decide +kernel)) (by decide +kernel)) (fun w h => ⟨tb_v_f_Mmay w h, gd_v_f_Mmay w h⟩)
set_option maxRecDepth 100000 in
theorem gl_85_v_Lrun : GoodIn lw_tbl (va_wsS RL 85 yL_run v_Lrun) := goodIn_app (goodIn_sub (mem_r [1791, 1792, 249] (by decide +kernel)) (by decide +kernel)) (fun w h => ⟨tb_v_Lrun w h, gd_v_Lrun w h⟩)
set_option maxRecDepth 100000 in
theorem gl_88_v_f_Mrun : GoodIn lw_tbl (wsV RL 88 RX12 yX12_run v_f_Mrun) := goodIn_app (goodIn_sub (mem_r [3043, 3044, 3045, 266] (by decide +kernel)) (by decide +kernel)) (fun w h => ⟨tb_v_f_Mrun w h, gd_v_f_Mrun w h⟩)
set_option maxRecDepth 100000 in
theorem gl_89_v_f_result : GoodIn lw_tbl (wsV RL 89 RX11 yX11_result v_f_result) := goodIn_app (goodIn_sub (mem_r [1259, 1260, 1261, 250] (by decide +kernel)) (by decide +kernel)) (fun w h => ⟨tb_v_f_result w h, gd_v_f_result w h⟩)
set_option maxRecDepth 100000 in
theorem gl_92_v_f_Mresult : GoodIn lw_tbl (wsV RL 92 RX12 yX12_result v_f_Mresult) := goodIn_app (goodIn_sub (mem_r [3202, 3203, 3204, 266] (by decide +kernel)) (by decide +kernel)) (fun w h => ⟨tb_v_f_Mresult w h, gd_v_f_Mresult w h⟩)
set_option maxRecDepth 100000 in
theorem gl_93_v_f_event : GoodIn lw_tbl (wsV RL 93 RX11 yX11_event v_f_event) := goodIn_app (goodIn_sub (mem_r [1275, 1276, 1277, 250] (by decide +kernel)) (by decide +kernel)) (fun w h => ⟨tb_v_f_event w h, gd_v_f_event w h⟩)
set_option maxRecDepth 100000 in
theorem gl_96_v_f_Mevent : GoodIn lw_tbl (wsV RL 96 RX12 yX12_event v_f_Mevent) := goodIn_app (goodIn_sub (mem_r [3206, 3207, 3208, 266] (by decide +kernel)) (by decide +kernel)) (fun w h => ⟨tb_v_f_Mevent w h, gd_v_f_Mevent w h⟩)
set_option maxRecDepth 100000 in
theorem gl_97_v_f_thread : GoodIn lw_tbl (wsV RL 97 RX11 yX11_thread v_f_thread) := goodIn_app (goodIn_sub (mem_r [1284, 1285, 1286, 250] (by decide +kernel)) (by decide +kernel)) (fun w h => ⟨tb_v_f_thread w h, gd_v_f_thread w h⟩)
set_option maxRecDepth 100000 in
theorem gl_100_v_f_Mthread : GoodIn lw_tbl (wsV RL 100 RX12 yX12_thread v_f_Mthread) := goodIn_app (goodIn_sub (mem_r [3211, 3212, 3213, 266] (by decide +kernel)) (by decide +kernel)) (fun w h => ⟨tb_v_f_Mthread w h, gd_v_f_Mthread w h⟩)
set_option maxRecDepth 100000 in
theorem gl_101_v_f_context : GoodIn lw_tbl (wsV RL 101 RX11 yX11_context v_f_context) := goodIn_app (goodIn_sub (mem_r [1303, 1304, 1305, 250] (by decide +kernel)) (by decide +kernel)) (fun w h => ⟨tb_v_f_context w h, gd_v_f_context w h⟩)
set_option maxRecDepth 100000 in
theorem gl_104_v_f_Mcontext : GoodIn lw_tbl (wsV RL 104 RX12 yX12_context v_f_Mcontext) := goodIn_app (goodIn_sub (mem_r [3215, 3216, 3217, 266] (by decide +kernel)) (by decide +kernel)) (fun w h => ⟨tb_v_f_Mcontext w h, gd_v_f_Mcontext w h⟩)
set_option maxHeartbeats 4000000 in
set_option maxRecDepth 100000 in
theorem lc_0 {p : Program} {l : Launch} {e : Env} {s : State} {m : MethodId} {below : List Frame} {meth : Method} {c : Code} {b : Nat} {xs : Nat → Int32} (C0 : lw_At p s m meth c b 6 xs) (hst : l.stackTraces = false) {D : va_G} {cA : Nat → ClassId} {adK adV : Nat → Nat} {sr1 sr2 : Nat} {E : hp_N} (hEe : E = ev_E adK adV sr1 sr2) (cx : hp_C p c cL_law meth ret 7 s m #[Value.ref b] ⟨RL, meth.name, ""⟩ lw_tbl) {u1 uM g : hp_M} {xo mo o : Nat} {H : Heap} {locs : List Loc} {cells slots : Nat} {ls : Array Slot} (hw : hp_w D vwCl (hp_Tl cA) E (fun q => s.heap.size ≤ q) s H locs g) (hs1 : ∀ a e, u1 a = some e → g a = some e) (hsM : ∀ a e, uM a = some e → g a = some e) (hdis : ∀ a e, uM a = some e → u1 a = none) (hfX : fr_House cA u1 xo) (hfM : fr_Model cA uM mo) (hl : lv_has ls 7 [(4, .int 0), (3, .ref o), (2, .ref mo), (1, .ref xo), (0, .ref b)]) (hcc : cells ≤ 500000) (hss : slots ≤ 6000000) : W p l e room_1 s m #[Value.ref b] below meth c H locs cells slots (lw_Z below #[Value.ref b] s) (F0 m 124 ls []) := by
  obtain ⟨hx, hb, hr, hml, hown, hts, hX, hbl, hlocks, hgv⟩ := id C0
  have hbA : ¬ (fun q : Nat => s.heap.size ≤ q) b := Nat.not_le.mpr hbl
  obtain ⟨ax, hxo, -⟩ := id hfX
  obtain ⟨rx, hmo, -⟩ := id hfM
  have hsr1 : ∀ A U H, E A U H → vk_R "WardenHouse$Reader" 87 "the text has a fault" sr1 U := by rw [hEe]; exact fun _ _ _ h => h.2.2.2.2.2.1
  have hsr2 : ∀ A U H, E A U H → vk_R "WardenHouse" 208 "there is no program" sr2 U := by rw [hEe]; exact fun _ _ _ h => h.2.2.2.2.2.2
  have hthA : st_thr E "java/lang/IllegalArgumentException" := by rw [hEe]; exact ev_thA
  have hthS : st_thr E "java/lang/IllegalStateException" := by rw [hEe]; exact ev_thS
  refine lv_aload_n cx.1 cx.2.1 dL_law_124 rfl (lv_at hl 3 rfl) ?_
  refine lv_aload_n cx.1 cx.2.1 dL_law_125 rfl (lv_at hl 4 rfl) ?_
  refine lv_iload cx.1 cx.2.1 dL_law_126 (lv_at hl 0 rfl) ?_
  refine lv_iconst (v := 1) cx.1 cx.2.1 dL_law_128 (by decide) ?_
  refine lv_iadd cx.1 cx.2.1 dL_law_129 ?_
  refine lv_topi (fun z1 ez1 => ?_)
  obtain rfl : z1 = 1 := ez1.trans (by decide)
  refine va_sld cx.1 cx.2.1 hX hbl hbA hw.2.1 (show vp_in (1 : Int32) 6 by unfold vp_in; decide) dL_law_130 ?_
  refine lv_topi (fun x2 ex2 => ?_)
  refine lv_aload_n cx.1 cx.2.1 dL_law_131 rfl (lv_at hl 4 rfl) ?_
  refine lv_iload cx.1 cx.2.1 dL_law_132 (lv_at hl 0 rfl) ?_
  refine lv_iconst (v := 2) cx.1 cx.2.1 dL_law_134 (by decide) ?_
  refine lv_iadd cx.1 cx.2.1 dL_law_135 ?_
  refine lv_topi (fun z3 ez3 => ?_)
  obtain rfl : z3 = 2 := ez3.trans (by decide)
  refine va_sld cx.1 cx.2.1 hX hbl hbA hw.2.1 (show vp_in (2 : Int32) 6 by unfold vp_in; decide) dL_law_136 ?_
  refine lv_topi (fun x4 ex4 => ?_)
  refine lv_aload_n cx.1 cx.2.1 dL_law_137 rfl (lv_at hl 4 rfl) ?_
  refine lv_iload cx.1 cx.2.1 dL_law_138 (lv_at hl 0 rfl) ?_
  refine lv_iconst (v := 3) cx.1 cx.2.1 dL_law_140 (by decide) ?_
  refine lv_iadd cx.1 cx.2.1 dL_law_141 ?_
  refine lv_topi (fun z5 ez5 => ?_)
  obtain rfl : z5 = 3 := ez5.trans (by decide)
  refine va_sld cx.1 cx.2.1 hX hbl hbA hw.2.1 (show vp_in (3 : Int32) 6 by unfold vp_in; decide) dL_law_142 ?_
  refine lv_topi (fun x6 ex6 => ?_)
  refine lv_aload_n cx.1 cx.2.1 dL_law_143 rfl (lv_at hl 4 rfl) ?_
  refine lv_iload cx.1 cx.2.1 dL_law_144 (lv_at hl 0 rfl) ?_
  refine lv_iconst (v := 4) cx.1 cx.2.1 dL_law_146 (by decide) ?_
  refine lv_iadd cx.1 cx.2.1 dL_law_147 ?_
  refine lv_topi (fun z7 ez7 => ?_)
  obtain rfl : z7 = 4 := ez7.trans (by decide)
  refine va_sld cx.1 cx.2.1 hX hbl hbA hw.2.1 (show vp_in (4 : Int32) 6 by unfold vp_in; decide) dL_law_148 ?_
  refine lv_topi (fun x8 ex8 => ?_)
  refine lv_aload_n cx.1 cx.2.1 dL_law_149 rfl (lv_at hl 4 rfl) ?_
  refine lv_iload cx.1 cx.2.1 dL_law_150 (lv_at hl 0 rfl) ?_
  refine lv_iconst (v := 5) cx.1 cx.2.1 dL_law_152 (by decide) ?_
  refine lv_iadd cx.1 cx.2.1 dL_law_153 ?_
  refine lv_topi (fun z9 ez9 => ?_)
  obtain rfl : z9 = 5 := ez9.trans (by decide)
  refine va_sld cx.1 cx.2.1 hX hbl hbA hw.2.1 (show vp_in (5 : Int32) 6 by unfold vp_in; decide) dL_law_154 ?_
  refine lv_topi (fun x10 ex10 => ?_)
  refine hp_callFi (g1 := u1) (As := [.int x2, .int x4, .int x6, .int x8, .int x10]) (rest := []) cx hw hs1 (f_feed l D cA E _ u1 xo hfX x2 x4 x6 x8 x10) (cwV 5 cx.2.2.2.2.2.1 gl_25_v_f_feed rfl rfl rfl (by decide +kernel) ⟨Nat.le_of_ble_eq_true rfl, Nat.le_of_ble_eq_true rfl⟩) (hs1 _ _ hxo) rfl rfl hl.1 rfl (Nat.le_of_ble_eq_true rfl) dL_law_155 ⟨by show _ ≤ 600002; omega, by show _ ≤ 7302232; omega⟩ (fun r11 u12 g13 H locs hp14 ha15 hb16 hw => ?_)
  have hb16_m : ∀ a e, uM a = some e → g13 a = some e := fun a e h => hb16 a e (hsM a e h) (hdis a e h)
  refine lv_aload_n cx.1 cx.2.1 dL_law_158 rfl (lv_at hl 2 rfl) ?_
  refine lv_aload_n cx.1 cx.2.1 dL_law_159 rfl (lv_at hl 4 rfl) ?_
  refine lv_iload cx.1 cx.2.1 dL_law_160 (lv_at hl 0 rfl) ?_
  refine lv_iconst (v := 1) cx.1 cx.2.1 dL_law_162 (by decide) ?_
  refine lv_iadd cx.1 cx.2.1 dL_law_163 ?_
  refine lv_topi (fun z17 ez17 => ?_)
  obtain rfl : z17 = 1 := ez17.trans (by decide)
  refine va_sld cx.1 cx.2.1 hX hbl hbA hw.2.1 (show vp_in (1 : Int32) 6 by unfold vp_in; decide) dL_law_164 ?_
  refine lv_topi (fun x18 ex18 => ?_)
  obtain rfl : x2 = x18 := ex2.trans ex18.symm
  refine lv_aload_n cx.1 cx.2.1 dL_law_165 rfl (lv_at hl 4 rfl) ?_
  refine lv_iload cx.1 cx.2.1 dL_law_166 (lv_at hl 0 rfl) ?_
  refine lv_iconst (v := 2) cx.1 cx.2.1 dL_law_168 (by decide) ?_
  refine lv_iadd cx.1 cx.2.1 dL_law_169 ?_
  refine lv_topi (fun z19 ez19 => ?_)
  obtain rfl : z19 = 2 := ez19.trans (by decide)
  refine va_sld cx.1 cx.2.1 hX hbl hbA hw.2.1 (show vp_in (2 : Int32) 6 by unfold vp_in; decide) dL_law_170 ?_
  refine lv_topi (fun x20 ex20 => ?_)
  obtain rfl : x4 = x20 := ex4.trans ex20.symm
  refine lv_aload_n cx.1 cx.2.1 dL_law_171 rfl (lv_at hl 4 rfl) ?_
  refine lv_iload cx.1 cx.2.1 dL_law_172 (lv_at hl 0 rfl) ?_
  refine lv_iconst (v := 3) cx.1 cx.2.1 dL_law_174 (by decide) ?_
  refine lv_iadd cx.1 cx.2.1 dL_law_175 ?_
  refine lv_topi (fun z21 ez21 => ?_)
  obtain rfl : z21 = 3 := ez21.trans (by decide)
  refine va_sld cx.1 cx.2.1 hX hbl hbA hw.2.1 (show vp_in (3 : Int32) 6 by unfold vp_in; decide) dL_law_176 ?_
  refine lv_topi (fun x22 ex22 => ?_)
  obtain rfl : x6 = x22 := ex6.trans ex22.symm
  refine lv_aload_n cx.1 cx.2.1 dL_law_177 rfl (lv_at hl 4 rfl) ?_
  refine lv_iload cx.1 cx.2.1 dL_law_178 (lv_at hl 0 rfl) ?_
  refine lv_iconst (v := 4) cx.1 cx.2.1 dL_law_180 (by decide) ?_
  refine lv_iadd cx.1 cx.2.1 dL_law_181 ?_
  refine lv_topi (fun z23 ez23 => ?_)
  obtain rfl : z23 = 4 := ez23.trans (by decide)
  refine va_sld cx.1 cx.2.1 hX hbl hbA hw.2.1 (show vp_in (4 : Int32) 6 by unfold vp_in; decide) dL_law_182 ?_
  refine lv_topi (fun x24 ex24 => ?_)
  obtain rfl : x8 = x24 := ex8.trans ex24.symm
  refine lv_aload_n cx.1 cx.2.1 dL_law_183 rfl (lv_at hl 4 rfl) ?_
  refine lv_iload cx.1 cx.2.1 dL_law_184 (lv_at hl 0 rfl) ?_
  refine lv_iconst (v := 5) cx.1 cx.2.1 dL_law_186 (by decide) ?_
  refine lv_iadd cx.1 cx.2.1 dL_law_187 ?_
  refine lv_topi (fun z25 ez25 => ?_)
  obtain rfl : z25 = 5 := ez25.trans (by decide)
  refine va_sld cx.1 cx.2.1 hX hbl hbA hw.2.1 (show vp_in (5 : Int32) 6 by unfold vp_in; decide) dL_law_188 ?_
  refine lv_topi (fun x26 ex26 => ?_)
  obtain rfl : x10 = x26 := ex10.trans ex26.symm
  refine hp_callFi (g1 := uM) (As := [.int x2, .int x4, .int x6, .int x8, .int x10]) (rest := [.int r11]) cx hw hb16_m (f_Mfeed l D cA E _ uM mo hfM x2 x4 x6 x8 x10) (cwV 5 cx.2.2.2.2.2.1 gl_29_v_f_Mfeed rfl rfl rfl (by decide +kernel) ⟨Nat.le_of_ble_eq_true rfl, Nat.le_of_ble_eq_true rfl⟩) (hb16_m _ _ hmo) rfl rfl hl.1 rfl (Nat.le_of_ble_eq_true rfl) dL_law_189 ⟨by show _ ≤ 600002; omega, by show _ ≤ 7302232; omega⟩ (fun r27 u28 g29 H locs hp30 ha31 hb32 hw => ?_)
  refine lv_icmp_eq (tgt := 803) cx.1 cx.2.1 dL_law_192 (by decide) (fun ck => ?_) (fun ck => ?_)
  rotate_left
  · exact absurd (hp14.trans hp30.symm) ck
  exact law_end C0 rfl cx hw (lv_sub hl [4, 0] rfl) (by omega) (by omega)
set_option maxHeartbeats 4000000 in
set_option maxRecDepth 100000 in
theorem lc_1 {p : Program} {l : Launch} {e : Env} {s : State} {m : MethodId} {below : List Frame} {meth : Method} {c : Code} {b : Nat} {xs : Nat → Int32} (C0 : lw_At p s m meth c b 6 xs) (hst : l.stackTraces = false) {D : va_G} {cA : Nat → ClassId} {adK adV : Nat → Nat} {sr1 sr2 : Nat} {E : hp_N} (hEe : E = ev_E adK adV sr1 sr2) (cx : hp_C p c cL_law meth ret 7 s m #[Value.ref b] ⟨RL, meth.name, ""⟩ lw_tbl) {u1 uM g : hp_M} {xo mo o : Nat} {H : Heap} {locs : List Loc} {cells slots : Nat} {ls : Array Slot} (hw : hp_w D vwCl (hp_Tl cA) E (fun q => s.heap.size ≤ q) s H locs g) (hs1 : ∀ a e, u1 a = some e → g a = some e) (hsM : ∀ a e, uM a = some e → g a = some e) (hdis : ∀ a e, uM a = some e → u1 a = none) (hfX : fr_House cA u1 xo) (hfM : fr_Model cA uM mo) (hl : lv_has ls 7 [(4, .int 0), (3, .ref o), (2, .ref mo), (1, .ref xo), (0, .ref b)]) (hcc : cells ≤ 500000) (hss : slots ≤ 6000000) : W p l e room_1 s m #[Value.ref b] below meth c H locs cells slots (lw_Z below #[Value.ref b] s) (F0 m 197 ls []) := by
  obtain ⟨hx, hb, hr, hml, hown, hts, hX, hbl, hlocks, hgv⟩ := id C0
  have hbA : ¬ (fun q : Nat => s.heap.size ≤ q) b := Nat.not_le.mpr hbl
  obtain ⟨ax, hxo, -⟩ := id hfX
  obtain ⟨rx, hmo, -⟩ := id hfM
  have hsr1 : ∀ A U H, E A U H → vk_R "WardenHouse$Reader" 87 "the text has a fault" sr1 U := by rw [hEe]; exact fun _ _ _ h => h.2.2.2.2.2.1
  have hsr2 : ∀ A U H, E A U H → vk_R "WardenHouse" 208 "there is no program" sr2 U := by rw [hEe]; exact fun _ _ _ h => h.2.2.2.2.2.2
  have hthA : st_thr E "java/lang/IllegalArgumentException" := by rw [hEe]; exact ev_thA
  have hthS : st_thr E "java/lang/IllegalStateException" := by rw [hEe]; exact ev_thS
  refine lv_aload_n cx.1 cx.2.1 dL_law_197 rfl (lv_at hl 3 rfl) ?_
  refine lv_aload_n cx.1 cx.2.1 dL_law_198 rfl (lv_at hl 4 rfl) ?_
  refine lv_iload cx.1 cx.2.1 dL_law_199 (lv_at hl 0 rfl) ?_
  refine lv_iconst (v := 1) cx.1 cx.2.1 dL_law_201 (by decide) ?_
  refine lv_iadd cx.1 cx.2.1 dL_law_202 ?_
  refine lv_topi (fun z1 ez1 => ?_)
  obtain rfl : z1 = 1 := ez1.trans (by decide)
  refine va_sld cx.1 cx.2.1 hX hbl hbA hw.2.1 (show vp_in (1 : Int32) 6 by unfold vp_in; decide) dL_law_203 ?_
  refine lv_topi (fun x2 ex2 => ?_)
  refine hp_callFi (g1 := u1) (As := [.int x2]) (rest := []) cx hw hs1 (f_end l D cA E _ u1 xo hfX x2) (cwV 1 cx.2.2.2.2.2.1 gl_30_v_f_end rfl rfl rfl (by decide +kernel) ⟨Nat.le_of_ble_eq_true rfl, Nat.le_of_ble_eq_true rfl⟩) (hs1 _ _ hxo) rfl rfl hl.1 rfl (Nat.le_of_ble_eq_true rfl) dL_law_204 ⟨by show _ ≤ 600002; omega, by show _ ≤ 7302232; omega⟩ (fun r3 u4 g5 H locs hp6 ha7 hb8 hw => ?_)
  have hb8_m : ∀ a e, uM a = some e → g5 a = some e := fun a e h => hb8 a e (hsM a e h) (hdis a e h)
  refine lv_aload_n cx.1 cx.2.1 dL_law_207 rfl (lv_at hl 2 rfl) ?_
  refine lv_aload_n cx.1 cx.2.1 dL_law_208 rfl (lv_at hl 4 rfl) ?_
  refine lv_iload cx.1 cx.2.1 dL_law_209 (lv_at hl 0 rfl) ?_
  refine lv_iconst (v := 1) cx.1 cx.2.1 dL_law_211 (by decide) ?_
  refine lv_iadd cx.1 cx.2.1 dL_law_212 ?_
  refine lv_topi (fun z9 ez9 => ?_)
  obtain rfl : z9 = 1 := ez9.trans (by decide)
  refine va_sld cx.1 cx.2.1 hX hbl hbA hw.2.1 (show vp_in (1 : Int32) 6 by unfold vp_in; decide) dL_law_213 ?_
  refine lv_topi (fun x10 ex10 => ?_)
  obtain rfl : x2 = x10 := ex2.trans ex10.symm
  refine hp_callFi (g1 := uM) (As := [.int x2]) (rest := [.int r3]) cx hw hb8_m (f_Mend l D cA E _ uM mo hfM x2) (cwV 1 cx.2.2.2.2.2.1 gl_34_v_f_Mend rfl rfl rfl (by decide +kernel) ⟨Nat.le_of_ble_eq_true rfl, Nat.le_of_ble_eq_true rfl⟩) (hb8_m _ _ hmo) rfl rfl hl.1 rfl (Nat.le_of_ble_eq_true rfl) dL_law_214 ⟨by show _ ≤ 600002; omega, by show _ ≤ 7302232; omega⟩ (fun r11 u12 g13 H locs hp14 ha15 hb16 hw => ?_)
  refine lv_icmp_eq (tgt := 803) cx.1 cx.2.1 dL_law_217 (by decide) (fun ck => ?_) (fun ck => ?_)
  rotate_left
  · exact absurd (lq_end hp6 hp14) ck
  exact law_end C0 rfl cx hw (lv_sub hl [4, 0] rfl) (by omega) (by omega)
set_option maxHeartbeats 4000000 in
set_option maxRecDepth 100000 in
theorem lc_2 {p : Program} {l : Launch} {e : Env} {s : State} {m : MethodId} {below : List Frame} {meth : Method} {c : Code} {b : Nat} {xs : Nat → Int32} (C0 : lw_At p s m meth c b 6 xs) (hst : l.stackTraces = false) {D : va_G} {cA : Nat → ClassId} {adK adV : Nat → Nat} {sr1 sr2 : Nat} {E : hp_N} (hEe : E = ev_E adK adV sr1 sr2) (cx : hp_C p c cL_law meth ret 7 s m #[Value.ref b] ⟨RL, meth.name, ""⟩ lw_tbl) {u1 uM g : hp_M} {xo mo o : Nat} {H : Heap} {locs : List Loc} {cells slots : Nat} {ls : Array Slot} (hw : hp_w D vwCl (hp_Tl cA) E (fun q => s.heap.size ≤ q) s H locs g) (hs1 : ∀ a e, u1 a = some e → g a = some e) (hsM : ∀ a e, uM a = some e → g a = some e) (hdis : ∀ a e, uM a = some e → u1 a = none) (hfX : fr_House cA u1 xo) (hfM : fr_Model cA uM mo) (hl : lv_has ls 7 [(4, .int 0), (3, .ref o), (2, .ref mo), (1, .ref xo), (0, .ref b)]) (hcc : cells ≤ 500000) (hss : slots ≤ 6000000) : W p l e room_1 s m #[Value.ref b] below meth c H locs cells slots (lw_Z below #[Value.ref b] s) (F0 m 222 ls []) := by
  obtain ⟨hx, hb, hr, hml, hown, hts, hX, hbl, hlocks, hgv⟩ := id C0
  have hbA : ¬ (fun q : Nat => s.heap.size ≤ q) b := Nat.not_le.mpr hbl
  obtain ⟨ax, hxo, -⟩ := id hfX
  obtain ⟨rx, hmo, -⟩ := id hfM
  have hsr1 : ∀ A U H, E A U H → vk_R "WardenHouse$Reader" 87 "the text has a fault" sr1 U := by rw [hEe]; exact fun _ _ _ h => h.2.2.2.2.2.1
  have hsr2 : ∀ A U H, E A U H → vk_R "WardenHouse" 208 "there is no program" sr2 U := by rw [hEe]; exact fun _ _ _ h => h.2.2.2.2.2.2
  have hthA : st_thr E "java/lang/IllegalArgumentException" := by rw [hEe]; exact ev_thA
  have hthS : st_thr E "java/lang/IllegalStateException" := by rw [hEe]; exact ev_thS
  refine lv_aload_n cx.1 cx.2.1 dL_law_222 rfl (lv_at hl 3 rfl) ?_
  refine lv_aload_n cx.1 cx.2.1 dL_law_223 rfl (lv_at hl 1 rfl) ?_
  refine hp_callFW (g1 := u1) (As := [.ref xo, .ref o]) (rest := []) cx hw hs1 (k_Lprogram l D cA E _ u1 hst hthA _ hsr1 xo o hfX) (vx_cwSW 2 cx.2.2.2.2.2.1 gl_35_v_Lprogram rfl rfl rfl (by decide +kernel) ⟨Nat.le_of_ble_eq_true rfl, Nat.le_of_ble_eq_true rfl⟩) rfl hl.1 rfl (Nat.le_of_ble_eq_true rfl) dL_law_224 ⟨by show _ ≤ 600002; omega, by show _ ≤ 7302232; omega⟩ (fun r1 u2 g3 H locs hp4 ha5 hb6 hw => ?_)
  have hb6_m : ∀ a e, uM a = some e → g3 a = some e := fun a e h => hb6 a e (hsM a e h) (hdis a e h)
  subst hp4
  refine lv_istore (lv' := [(5, .int 1), (4, .int 0), (3, .ref o), (2, .ref mo), (1, .ref xo), (0, .ref b)]) cx.1 cx.2.1 dL_law_227 hl (by decide) rfl (fun ls hl => ?_)
  refine lv_aload_n cx.1 cx.2.1 dL_law_229 rfl (lv_at hl 3 rfl) ?_
  refine hp_callFi (g1 := uM) (As := []) (rest := []) cx hw hb6_m (f_Mprogram l D cA E _ uM mo hfM ) (cwV 0 cx.2.2.2.2.2.1 gl_40_v_f_Mprogram rfl rfl rfl (by decide +kernel) ⟨Nat.le_of_ble_eq_true rfl, Nat.le_of_ble_eq_true rfl⟩) (hb6_m _ _ hmo) rfl rfl hl.1 rfl (Nat.le_of_ble_eq_true rfl) dL_law_230 ⟨by show _ ≤ 600002; omega, by show _ ≤ 7302232; omega⟩ (fun r7 u8 g9 H locs hp10 ha11 hb12 hw => ?_)
  obtain ⟨tfs, thh, thL, th0⟩ := hp10
  refine lv_istore (lv' := [(6, .int r7), (5, .int 1), (4, .int 0), (3, .ref o), (2, .ref mo), (1, .ref xo), (0, .ref b)]) cx.1 cx.2.1 dL_law_233 hl (by decide) rfl (fun ls hl => ?_)
  refine lv_aload_n cx.1 cx.2.1 dL_law_235 rfl (lv_at hl 4 rfl) ?_
  refine hp_callFi (g1 := u8) (As := []) (rest := []) cx hw ha11 (k_thrown l D cA E _ u8 1 mo tfs thL thh th0) (cwV 0 cx.2.2.2.2.2.1 gl_41_v_k_thrown rfl rfl rfl (by decide +kernel) ⟨Nat.le_of_ble_eq_true rfl, Nat.le_of_ble_eq_true rfl⟩) (ha11 _ _ thh) rfl rfl hl.1 rfl (Nat.le_of_ble_eq_true rfl) dL_law_236 ⟨by show _ ≤ 600002; omega, by show _ ≤ 7302232; omega⟩ (fun r13 u14 g15 H locs hp16 ha17 hb18 hw => ?_)
  obtain ⟨-, rfl⟩ := hp16
  refine lv_iload cx.1 cx.2.1 dL_law_239 (lv_at hl 1 rfl) ?_
  refine lv_icmp_eq (tgt := 246) cx.1 cx.2.1 dL_law_241 (by decide) (fun ck => ?_) (fun ck => ?_)
  rotate_left
  · exact absurd rfl ck
  refine lv_iload cx.1 cx.2.1 dL_law_246 (lv_at hl 1 rfl) ?_
  refine lv_if_ne (tgt := 263) cx.1 cx.2.1 dL_law_248 (by decide) (fun ck => ?_) (fun ck => ?_)
  rotate_left
  · exact absurd ck (by decide)
  refine lv_goto (tgt := 803) cx.1 cx.2.1 dL_law_263 (by decide) ?_
  exact law_end C0 rfl cx hw (lv_sub hl [6, 2] rfl) (by omega) (by omega)
set_option maxHeartbeats 4000000 in
set_option maxRecDepth 100000 in
theorem lc_3 {p : Program} {l : Launch} {e : Env} {s : State} {m : MethodId} {below : List Frame} {meth : Method} {c : Code} {b : Nat} {xs : Nat → Int32} (C0 : lw_At p s m meth c b 6 xs) (hst : l.stackTraces = false) {D : va_G} {cA : Nat → ClassId} {adK adV : Nat → Nat} {sr1 sr2 : Nat} {E : hp_N} (hEe : E = ev_E adK adV sr1 sr2) (cx : hp_C p c cL_law meth ret 7 s m #[Value.ref b] ⟨RL, meth.name, ""⟩ lw_tbl) {u1 uM g : hp_M} {xo mo o : Nat} {H : Heap} {locs : List Loc} {cells slots : Nat} {ls : Array Slot} (hw : hp_w D vwCl (hp_Tl cA) E (fun q => s.heap.size ≤ q) s H locs g) (hs1 : ∀ a e, u1 a = some e → g a = some e) (hsM : ∀ a e, uM a = some e → g a = some e) (hdis : ∀ a e, uM a = some e → u1 a = none) (hfX : fr_House cA u1 xo) (hfM : fr_Model cA uM mo) (hl : lv_has ls 7 [(4, .int 0), (3, .ref o), (2, .ref mo), (1, .ref xo), (0, .ref b)]) (hcc : cells ≤ 500000) (hss : slots ≤ 6000000) : W p l e room_1 s m #[Value.ref b] below meth c H locs cells slots (lw_Z below #[Value.ref b] s) (F0 m 266 ls []) := by
  obtain ⟨hx, hb, hr, hml, hown, hts, hX, hbl, hlocks, hgv⟩ := id C0
  have hbA : ¬ (fun q : Nat => s.heap.size ≤ q) b := Nat.not_le.mpr hbl
  obtain ⟨ax, hxo, -⟩ := id hfX
  obtain ⟨rx, hmo, -⟩ := id hfM
  have hsr1 : ∀ A U H, E A U H → vk_R "WardenHouse$Reader" 87 "the text has a fault" sr1 U := by rw [hEe]; exact fun _ _ _ h => h.2.2.2.2.2.1
  have hsr2 : ∀ A U H, E A U H → vk_R "WardenHouse" 208 "there is no program" sr2 U := by rw [hEe]; exact fun _ _ _ h => h.2.2.2.2.2.2
  have hthA : st_thr E "java/lang/IllegalArgumentException" := by rw [hEe]; exact ev_thA
  have hthS : st_thr E "java/lang/IllegalStateException" := by rw [hEe]; exact ev_thS
  refine lv_aload_n cx.1 cx.2.1 dL_law_266 rfl (lv_at hl 3 rfl) ?_
  refine lv_aload_n cx.1 cx.2.1 dL_law_267 rfl (lv_at hl 4 rfl) ?_
  refine lv_iload cx.1 cx.2.1 dL_law_268 (lv_at hl 0 rfl) ?_
  refine lv_iconst (v := 1) cx.1 cx.2.1 dL_law_270 (by decide) ?_
  refine lv_iadd cx.1 cx.2.1 dL_law_271 ?_
  refine lv_topi (fun z1 ez1 => ?_)
  obtain rfl : z1 = 1 := ez1.trans (by decide)
  refine va_sld cx.1 cx.2.1 hX hbl hbA hw.2.1 (show vp_in (1 : Int32) 6 by unfold vp_in; decide) dL_law_272 ?_
  refine lv_topi (fun x2 ex2 => ?_)
  refine hp_callFi (g1 := u1) (As := [.int x2]) (rest := []) cx hw hs1 (f_fault l D cA E _ u1 xo hfX x2) (cwV 1 cx.2.2.2.2.2.1 gl_44_v_f_fault rfl rfl rfl (by decide +kernel) ⟨Nat.le_of_ble_eq_true rfl, Nat.le_of_ble_eq_true rfl⟩) (hs1 _ _ hxo) rfl rfl hl.1 rfl (Nat.le_of_ble_eq_true rfl) dL_law_273 ⟨by show _ ≤ 600002; omega, by show _ ≤ 7302232; omega⟩ (fun r3 u4 g5 H locs hp6 ha7 hb8 hw => ?_)
  have hb8_m : ∀ a e, uM a = some e → g5 a = some e := fun a e h => hb8 a e (hsM a e h) (hdis a e h)
  refine lv_aload_n cx.1 cx.2.1 dL_law_276 rfl (lv_at hl 2 rfl) ?_
  refine lv_aload_n cx.1 cx.2.1 dL_law_277 rfl (lv_at hl 4 rfl) ?_
  refine lv_iload cx.1 cx.2.1 dL_law_278 (lv_at hl 0 rfl) ?_
  refine lv_iconst (v := 1) cx.1 cx.2.1 dL_law_280 (by decide) ?_
  refine lv_iadd cx.1 cx.2.1 dL_law_281 ?_
  refine lv_topi (fun z9 ez9 => ?_)
  obtain rfl : z9 = 1 := ez9.trans (by decide)
  refine va_sld cx.1 cx.2.1 hX hbl hbA hw.2.1 (show vp_in (1 : Int32) 6 by unfold vp_in; decide) dL_law_282 ?_
  refine lv_topi (fun x10 ex10 => ?_)
  obtain rfl : x2 = x10 := ex2.trans ex10.symm
  refine hp_callFi (g1 := uM) (As := [.int x2]) (rest := [.int r3]) cx hw hb8_m (f_Mfault l D cA E _ uM mo hfM x2) (cwV 1 cx.2.2.2.2.2.1 gl_48_v_f_Mfault rfl rfl rfl (by decide +kernel) ⟨Nat.le_of_ble_eq_true rfl, Nat.le_of_ble_eq_true rfl⟩) (hb8_m _ _ hmo) rfl rfl hl.1 rfl (Nat.le_of_ble_eq_true rfl) dL_law_283 ⟨by show _ ≤ 600002; omega, by show _ ≤ 7302232; omega⟩ (fun r11 u12 g13 H locs hp14 ha15 hb16 hw => ?_)
  refine lv_icmp_eq (tgt := 803) cx.1 cx.2.1 dL_law_286 (by decide) (fun ck => ?_) (fun ck => ?_)
  rotate_left
  · exact absurd (hp6.trans hp14.symm) ck
  exact law_end C0 rfl cx hw (lv_sub hl [4, 0] rfl) (by omega) (by omega)
set_option maxHeartbeats 4000000 in
set_option maxRecDepth 100000 in
theorem lc_4 {p : Program} {l : Launch} {e : Env} {s : State} {m : MethodId} {below : List Frame} {meth : Method} {c : Code} {b : Nat} {xs : Nat → Int32} (C0 : lw_At p s m meth c b 6 xs) (hst : l.stackTraces = false) {D : va_G} {cA : Nat → ClassId} {adK adV : Nat → Nat} {sr1 sr2 : Nat} {E : hp_N} (hEe : E = ev_E adK adV sr1 sr2) (cx : hp_C p c cL_law meth ret 7 s m #[Value.ref b] ⟨RL, meth.name, ""⟩ lw_tbl) {u1 uM g : hp_M} {xo mo o : Nat} {H : Heap} {locs : List Loc} {cells slots : Nat} {ls : Array Slot} (hw : hp_w D vwCl (hp_Tl cA) E (fun q => s.heap.size ≤ q) s H locs g) (hs1 : ∀ a e, u1 a = some e → g a = some e) (hsM : ∀ a e, uM a = some e → g a = some e) (hdis : ∀ a e, uM a = some e → u1 a = none) (hfX : fr_House cA u1 xo) (hfM : fr_Model cA uM mo) (hl : lv_has ls 7 [(4, .int 0), (3, .ref o), (2, .ref mo), (1, .ref xo), (0, .ref b)]) (hcc : cells ≤ 500000) (hss : slots ≤ 6000000) : W p l e room_1 s m #[Value.ref b] below meth c H locs cells slots (lw_Z below #[Value.ref b] s) (F0 m 291 ls []) := by
  obtain ⟨hx, hb, hr, hml, hown, hts, hX, hbl, hlocks, hgv⟩ := id C0
  have hbA : ¬ (fun q : Nat => s.heap.size ≤ q) b := Nat.not_le.mpr hbl
  obtain ⟨ax, hxo, -⟩ := id hfX
  obtain ⟨rx, hmo, -⟩ := id hfM
  have hsr1 : ∀ A U H, E A U H → vk_R "WardenHouse$Reader" 87 "the text has a fault" sr1 U := by rw [hEe]; exact fun _ _ _ h => h.2.2.2.2.2.1
  have hsr2 : ∀ A U H, E A U H → vk_R "WardenHouse" 208 "there is no program" sr2 U := by rw [hEe]; exact fun _ _ _ h => h.2.2.2.2.2.2
  have hthA : st_thr E "java/lang/IllegalArgumentException" := by rw [hEe]; exact ev_thA
  have hthS : st_thr E "java/lang/IllegalStateException" := by rw [hEe]; exact ev_thS
  refine lv_aload_n cx.1 cx.2.1 dL_law_291 rfl (lv_at hl 3 rfl) ?_
  refine lv_aload_n cx.1 cx.2.1 dL_law_292 rfl (lv_at hl 4 rfl) ?_
  refine lv_iload cx.1 cx.2.1 dL_law_293 (lv_at hl 0 rfl) ?_
  refine lv_iconst (v := 1) cx.1 cx.2.1 dL_law_295 (by decide) ?_
  refine lv_iadd cx.1 cx.2.1 dL_law_296 ?_
  refine lv_topi (fun z1 ez1 => ?_)
  obtain rfl : z1 = 1 := ez1.trans (by decide)
  refine va_sld cx.1 cx.2.1 hX hbl hbA hw.2.1 (show vp_in (1 : Int32) 6 by unfold vp_in; decide) dL_law_297 ?_
  refine lv_topi (fun x2 ex2 => ?_)
  refine hp_callFi (g1 := u1) (As := [.int x2]) (rest := []) cx hw hs1 (f_count l D cA E _ u1 xo hfX x2) (cwV 1 cx.2.2.2.2.2.1 gl_49_v_f_count rfl rfl rfl (by decide +kernel) ⟨Nat.le_of_ble_eq_true rfl, Nat.le_of_ble_eq_true rfl⟩) (hs1 _ _ hxo) rfl rfl hl.1 rfl (Nat.le_of_ble_eq_true rfl) dL_law_298 ⟨by show _ ≤ 600002; omega, by show _ ≤ 7302232; omega⟩ (fun r3 u4 g5 H locs hp6 ha7 hb8 hw => ?_)
  have hb8_m : ∀ a e, uM a = some e → g5 a = some e := fun a e h => hb8 a e (hsM a e h) (hdis a e h)
  refine lv_aload_n cx.1 cx.2.1 dL_law_301 rfl (lv_at hl 2 rfl) ?_
  refine lv_aload_n cx.1 cx.2.1 dL_law_302 rfl (lv_at hl 4 rfl) ?_
  refine lv_iload cx.1 cx.2.1 dL_law_303 (lv_at hl 0 rfl) ?_
  refine lv_iconst (v := 1) cx.1 cx.2.1 dL_law_305 (by decide) ?_
  refine lv_iadd cx.1 cx.2.1 dL_law_306 ?_
  refine lv_topi (fun z9 ez9 => ?_)
  obtain rfl : z9 = 1 := ez9.trans (by decide)
  refine va_sld cx.1 cx.2.1 hX hbl hbA hw.2.1 (show vp_in (1 : Int32) 6 by unfold vp_in; decide) dL_law_307 ?_
  refine lv_topi (fun x10 ex10 => ?_)
  obtain rfl : x2 = x10 := ex2.trans ex10.symm
  refine hp_callFi (g1 := uM) (As := [.int x2]) (rest := [.int r3]) cx hw hb8_m (f_Mcount l D cA E _ uM mo hfM x2) (cwV 1 cx.2.2.2.2.2.1 gl_52_v_f_Mcount rfl rfl rfl (by decide +kernel) ⟨Nat.le_of_ble_eq_true rfl, Nat.le_of_ble_eq_true rfl⟩) (hb8_m _ _ hmo) rfl rfl hl.1 rfl (Nat.le_of_ble_eq_true rfl) dL_law_308 ⟨by show _ ≤ 600002; omega, by show _ ≤ 7302232; omega⟩ (fun r11 u12 g13 H locs hp14 ha15 hb16 hw => ?_)
  refine lv_icmp_eq (tgt := 803) cx.1 cx.2.1 dL_law_311 (by decide) (fun ck => ?_) (fun ck => ?_)
  rotate_left
  · exact absurd (lq_count hp6 hp14) ck
  exact law_end C0 rfl cx hw (lv_sub hl [4, 0] rfl) (by omega) (by omega)
set_option maxHeartbeats 4000000 in
set_option maxRecDepth 100000 in
theorem lc_5 {p : Program} {l : Launch} {e : Env} {s : State} {m : MethodId} {below : List Frame} {meth : Method} {c : Code} {b : Nat} {xs : Nat → Int32} (C0 : lw_At p s m meth c b 6 xs) (hst : l.stackTraces = false) {D : va_G} {cA : Nat → ClassId} {adK adV : Nat → Nat} {sr1 sr2 : Nat} {E : hp_N} (hEe : E = ev_E adK adV sr1 sr2) (cx : hp_C p c cL_law meth ret 7 s m #[Value.ref b] ⟨RL, meth.name, ""⟩ lw_tbl) {u1 uM g : hp_M} {xo mo o : Nat} {H : Heap} {locs : List Loc} {cells slots : Nat} {ls : Array Slot} (hw : hp_w D vwCl (hp_Tl cA) E (fun q => s.heap.size ≤ q) s H locs g) (hs1 : ∀ a e, u1 a = some e → g a = some e) (hsM : ∀ a e, uM a = some e → g a = some e) (hdis : ∀ a e, uM a = some e → u1 a = none) (hfX : fr_House cA u1 xo) (hfM : fr_Model cA uM mo) (hl : lv_has ls 7 [(4, .int 0), (3, .ref o), (2, .ref mo), (1, .ref xo), (0, .ref b)]) (hcc : cells ≤ 500000) (hss : slots ≤ 6000000) : W p l e room_1 s m #[Value.ref b] below meth c H locs cells slots (lw_Z below #[Value.ref b] s) (F0 m 316 ls []) := by
  obtain ⟨hx, hb, hr, hml, hown, hts, hX, hbl, hlocks, hgv⟩ := id C0
  have hbA : ¬ (fun q : Nat => s.heap.size ≤ q) b := Nat.not_le.mpr hbl
  obtain ⟨ax, hxo, -⟩ := id hfX
  obtain ⟨rx, hmo, -⟩ := id hfM
  have hsr1 : ∀ A U H, E A U H → vk_R "WardenHouse$Reader" 87 "the text has a fault" sr1 U := by rw [hEe]; exact fun _ _ _ h => h.2.2.2.2.2.1
  have hsr2 : ∀ A U H, E A U H → vk_R "WardenHouse" 208 "there is no program" sr2 U := by rw [hEe]; exact fun _ _ _ h => h.2.2.2.2.2.2
  have hthA : st_thr E "java/lang/IllegalArgumentException" := by rw [hEe]; exact ev_thA
  have hthS : st_thr E "java/lang/IllegalStateException" := by rw [hEe]; exact ev_thS
  refine lv_aload_n cx.1 cx.2.1 dL_law_316 rfl (lv_at hl 3 rfl) ?_
  refine lv_aload_n cx.1 cx.2.1 dL_law_317 rfl (lv_at hl 4 rfl) ?_
  refine lv_iload cx.1 cx.2.1 dL_law_318 (lv_at hl 0 rfl) ?_
  refine lv_iconst (v := 1) cx.1 cx.2.1 dL_law_320 (by decide) ?_
  refine lv_iadd cx.1 cx.2.1 dL_law_321 ?_
  refine lv_topi (fun z1 ez1 => ?_)
  obtain rfl : z1 = 1 := ez1.trans (by decide)
  refine va_sld cx.1 cx.2.1 hX hbl hbA hw.2.1 (show vp_in (1 : Int32) 6 by unfold vp_in; decide) dL_law_322 ?_
  refine lv_topi (fun x2 ex2 => ?_)
  refine lv_aload_n cx.1 cx.2.1 dL_law_323 rfl (lv_at hl 4 rfl) ?_
  refine lv_iload cx.1 cx.2.1 dL_law_324 (lv_at hl 0 rfl) ?_
  refine lv_iconst (v := 2) cx.1 cx.2.1 dL_law_326 (by decide) ?_
  refine lv_iadd cx.1 cx.2.1 dL_law_327 ?_
  refine lv_topi (fun z3 ez3 => ?_)
  obtain rfl : z3 = 2 := ez3.trans (by decide)
  refine va_sld cx.1 cx.2.1 hX hbl hbA hw.2.1 (show vp_in (2 : Int32) 6 by unfold vp_in; decide) dL_law_328 ?_
  refine lv_topi (fun x4 ex4 => ?_)
  refine hp_callFi (g1 := u1) (As := [.int x2, .int x4]) (rest := []) cx hw hs1 (f_unit l D cA E _ u1 xo hfX x2 x4) (cwV 2 cx.2.2.2.2.2.1 gl_53_v_f_unit rfl rfl rfl (by decide +kernel) ⟨Nat.le_of_ble_eq_true rfl, Nat.le_of_ble_eq_true rfl⟩) (hs1 _ _ hxo) rfl rfl hl.1 rfl (Nat.le_of_ble_eq_true rfl) dL_law_329 ⟨by show _ ≤ 600002; omega, by show _ ≤ 7302232; omega⟩ (fun r5 u6 g7 H locs hp8 ha9 hb10 hw => ?_)
  have hb10_m : ∀ a e, uM a = some e → g7 a = some e := fun a e h => hb10 a e (hsM a e h) (hdis a e h)
  refine lv_aload_n cx.1 cx.2.1 dL_law_332 rfl (lv_at hl 2 rfl) ?_
  refine lv_aload_n cx.1 cx.2.1 dL_law_333 rfl (lv_at hl 4 rfl) ?_
  refine lv_iload cx.1 cx.2.1 dL_law_334 (lv_at hl 0 rfl) ?_
  refine lv_iconst (v := 1) cx.1 cx.2.1 dL_law_336 (by decide) ?_
  refine lv_iadd cx.1 cx.2.1 dL_law_337 ?_
  refine lv_topi (fun z11 ez11 => ?_)
  obtain rfl : z11 = 1 := ez11.trans (by decide)
  refine va_sld cx.1 cx.2.1 hX hbl hbA hw.2.1 (show vp_in (1 : Int32) 6 by unfold vp_in; decide) dL_law_338 ?_
  refine lv_topi (fun x12 ex12 => ?_)
  obtain rfl : x2 = x12 := ex2.trans ex12.symm
  refine lv_aload_n cx.1 cx.2.1 dL_law_339 rfl (lv_at hl 4 rfl) ?_
  refine lv_iload cx.1 cx.2.1 dL_law_340 (lv_at hl 0 rfl) ?_
  refine lv_iconst (v := 2) cx.1 cx.2.1 dL_law_342 (by decide) ?_
  refine lv_iadd cx.1 cx.2.1 dL_law_343 ?_
  refine lv_topi (fun z13 ez13 => ?_)
  obtain rfl : z13 = 2 := ez13.trans (by decide)
  refine va_sld cx.1 cx.2.1 hX hbl hbA hw.2.1 (show vp_in (2 : Int32) 6 by unfold vp_in; decide) dL_law_344 ?_
  refine lv_topi (fun x14 ex14 => ?_)
  obtain rfl : x4 = x14 := ex4.trans ex14.symm
  refine hp_callFi (g1 := uM) (As := [.int x2, .int x4]) (rest := [.int r5]) cx hw hb10_m (f_Munit l D cA E _ uM mo hfM x2 x4) (cwV 2 cx.2.2.2.2.2.1 gl_57_v_f_Munit rfl rfl rfl (by decide +kernel) ⟨Nat.le_of_ble_eq_true rfl, Nat.le_of_ble_eq_true rfl⟩) (hb10_m _ _ hmo) rfl rfl hl.1 rfl (Nat.le_of_ble_eq_true rfl) dL_law_345 ⟨by show _ ≤ 600002; omega, by show _ ≤ 7302232; omega⟩ (fun r15 u16 g17 H locs hp18 ha19 hb20 hw => ?_)
  refine lv_icmp_eq (tgt := 803) cx.1 cx.2.1 dL_law_348 (by decide) (fun ck => ?_) (fun ck => ?_)
  rotate_left
  · exact absurd (hp8.trans hp18.symm) ck
  exact law_end C0 rfl cx hw (lv_sub hl [4, 0] rfl) (by omega) (by omega)
set_option maxHeartbeats 4000000 in
set_option maxRecDepth 100000 in
theorem lc_6 {p : Program} {l : Launch} {e : Env} {s : State} {m : MethodId} {below : List Frame} {meth : Method} {c : Code} {b : Nat} {xs : Nat → Int32} (C0 : lw_At p s m meth c b 6 xs) (hst : l.stackTraces = false) {D : va_G} {cA : Nat → ClassId} {adK adV : Nat → Nat} {sr1 sr2 : Nat} {E : hp_N} (hEe : E = ev_E adK adV sr1 sr2) (cx : hp_C p c cL_law meth ret 7 s m #[Value.ref b] ⟨RL, meth.name, ""⟩ lw_tbl) {u1 uM g : hp_M} {xo mo o : Nat} {H : Heap} {locs : List Loc} {cells slots : Nat} {ls : Array Slot} (hw : hp_w D vwCl (hp_Tl cA) E (fun q => s.heap.size ≤ q) s H locs g) (hs1 : ∀ a e, u1 a = some e → g a = some e) (hsM : ∀ a e, uM a = some e → g a = some e) (hdis : ∀ a e, uM a = some e → u1 a = none) (hfX : fr_House cA u1 xo) (hfM : fr_Model cA uM mo) (hl : lv_has ls 7 [(4, .int 0), (3, .ref o), (2, .ref mo), (1, .ref xo), (0, .ref b)]) (hcc : cells ≤ 500000) (hss : slots ≤ 6000000) : W p l e room_1 s m #[Value.ref b] below meth c H locs cells slots (lw_Z below #[Value.ref b] s) (F0 m 353 ls []) := by
  obtain ⟨hx, hb, hr, hml, hown, hts, hX, hbl, hlocks, hgv⟩ := id C0
  have hbA : ¬ (fun q : Nat => s.heap.size ≤ q) b := Nat.not_le.mpr hbl
  obtain ⟨ax, hxo, -⟩ := id hfX
  obtain ⟨rx, hmo, -⟩ := id hfM
  have hsr1 : ∀ A U H, E A U H → vk_R "WardenHouse$Reader" 87 "the text has a fault" sr1 U := by rw [hEe]; exact fun _ _ _ h => h.2.2.2.2.2.1
  have hsr2 : ∀ A U H, E A U H → vk_R "WardenHouse" 208 "there is no program" sr2 U := by rw [hEe]; exact fun _ _ _ h => h.2.2.2.2.2.2
  have hthA : st_thr E "java/lang/IllegalArgumentException" := by rw [hEe]; exact ev_thA
  have hthS : st_thr E "java/lang/IllegalStateException" := by rw [hEe]; exact ev_thS
  refine lv_aload_n cx.1 cx.2.1 dL_law_353 rfl (lv_at hl 3 rfl) ?_
  refine lv_aload_n cx.1 cx.2.1 dL_law_354 rfl (lv_at hl 4 rfl) ?_
  refine lv_iload cx.1 cx.2.1 dL_law_355 (lv_at hl 0 rfl) ?_
  refine lv_iconst (v := 1) cx.1 cx.2.1 dL_law_357 (by decide) ?_
  refine lv_iadd cx.1 cx.2.1 dL_law_358 ?_
  refine lv_topi (fun z1 ez1 => ?_)
  obtain rfl : z1 = 1 := ez1.trans (by decide)
  refine va_sld cx.1 cx.2.1 hX hbl hbA hw.2.1 (show vp_in (1 : Int32) 6 by unfold vp_in; decide) dL_law_359 ?_
  refine lv_topi (fun x2 ex2 => ?_)
  refine lv_aload_n cx.1 cx.2.1 dL_law_360 rfl (lv_at hl 4 rfl) ?_
  refine lv_iload cx.1 cx.2.1 dL_law_361 (lv_at hl 0 rfl) ?_
  refine lv_iconst (v := 2) cx.1 cx.2.1 dL_law_363 (by decide) ?_
  refine lv_iadd cx.1 cx.2.1 dL_law_364 ?_
  refine lv_topi (fun z3 ez3 => ?_)
  obtain rfl : z3 = 2 := ez3.trans (by decide)
  refine va_sld cx.1 cx.2.1 hX hbl hbA hw.2.1 (show vp_in (2 : Int32) 6 by unfold vp_in; decide) dL_law_365 ?_
  refine lv_topi (fun x4 ex4 => ?_)
  refine lw_bool (tz := 373) (tj := 374) cx dL_law_366 (by decide) dL_law_369 dL_law_370 (by decide) dL_law_373 rfl ?_
  refine lv_aload_n cx.1 cx.2.1 dL_law_374 rfl (lv_at hl 4 rfl) ?_
  refine lv_iload cx.1 cx.2.1 dL_law_375 (lv_at hl 0 rfl) ?_
  refine lv_iconst (v := 3) cx.1 cx.2.1 dL_law_377 (by decide) ?_
  refine lv_iadd cx.1 cx.2.1 dL_law_378 ?_
  refine lv_topi (fun z5 ez5 => ?_)
  obtain rfl : z5 = 3 := ez5.trans (by decide)
  refine va_sld cx.1 cx.2.1 hX hbl hbA hw.2.1 (show vp_in (3 : Int32) 6 by unfold vp_in; decide) dL_law_379 ?_
  refine lv_topi (fun x6 ex6 => ?_)
  refine hp_callFi (g1 := u1) (As := [.int x2, .int (lb x4), .int x6]) (rest := []) cx hw hs1 (f_code l D cA E _ u1 xo hfX x2 (lb x4) x6) (cwV 3 cx.2.2.2.2.2.1 gl_58_v_f_code rfl rfl rfl (by decide +kernel) ⟨Nat.le_of_ble_eq_true rfl, Nat.le_of_ble_eq_true rfl⟩) (hs1 _ _ hxo) rfl rfl hl.1 rfl (Nat.le_of_ble_eq_true rfl) dL_law_380 ⟨by show _ ≤ 600002; omega, by show _ ≤ 7302232; omega⟩ (fun r7 u8 g9 H locs hp10 ha11 hb12 hw => ?_)
  have hb12_m : ∀ a e, uM a = some e → g9 a = some e := fun a e h => hb12 a e (hsM a e h) (hdis a e h)
  refine lv_aload_n cx.1 cx.2.1 dL_law_383 rfl (lv_at hl 2 rfl) ?_
  refine lv_aload_n cx.1 cx.2.1 dL_law_384 rfl (lv_at hl 4 rfl) ?_
  refine lv_iload cx.1 cx.2.1 dL_law_385 (lv_at hl 0 rfl) ?_
  refine lv_iconst (v := 1) cx.1 cx.2.1 dL_law_387 (by decide) ?_
  refine lv_iadd cx.1 cx.2.1 dL_law_388 ?_
  refine lv_topi (fun z13 ez13 => ?_)
  obtain rfl : z13 = 1 := ez13.trans (by decide)
  refine va_sld cx.1 cx.2.1 hX hbl hbA hw.2.1 (show vp_in (1 : Int32) 6 by unfold vp_in; decide) dL_law_389 ?_
  refine lv_topi (fun x14 ex14 => ?_)
  obtain rfl : x2 = x14 := ex2.trans ex14.symm
  refine lv_aload_n cx.1 cx.2.1 dL_law_390 rfl (lv_at hl 4 rfl) ?_
  refine lv_iload cx.1 cx.2.1 dL_law_391 (lv_at hl 0 rfl) ?_
  refine lv_iconst (v := 2) cx.1 cx.2.1 dL_law_393 (by decide) ?_
  refine lv_iadd cx.1 cx.2.1 dL_law_394 ?_
  refine lv_topi (fun z15 ez15 => ?_)
  obtain rfl : z15 = 2 := ez15.trans (by decide)
  refine va_sld cx.1 cx.2.1 hX hbl hbA hw.2.1 (show vp_in (2 : Int32) 6 by unfold vp_in; decide) dL_law_395 ?_
  refine lv_topi (fun x16 ex16 => ?_)
  obtain rfl : x4 = x16 := ex4.trans ex16.symm
  refine lw_bool (tz := 403) (tj := 404) cx dL_law_396 (by decide) dL_law_399 dL_law_400 (by decide) dL_law_403 rfl ?_
  refine lv_aload_n cx.1 cx.2.1 dL_law_404 rfl (lv_at hl 4 rfl) ?_
  refine lv_iload cx.1 cx.2.1 dL_law_405 (lv_at hl 0 rfl) ?_
  refine lv_iconst (v := 3) cx.1 cx.2.1 dL_law_407 (by decide) ?_
  refine lv_iadd cx.1 cx.2.1 dL_law_408 ?_
  refine lv_topi (fun z17 ez17 => ?_)
  obtain rfl : z17 = 3 := ez17.trans (by decide)
  refine va_sld cx.1 cx.2.1 hX hbl hbA hw.2.1 (show vp_in (3 : Int32) 6 by unfold vp_in; decide) dL_law_409 ?_
  refine lv_topi (fun x18 ex18 => ?_)
  obtain rfl : x6 = x18 := ex6.trans ex18.symm
  refine hp_callFi (g1 := uM) (As := [.int x2, .int (lb x4), .int x6]) (rest := [.int r7]) cx hw hb12_m (f_Mcode l D cA E _ uM mo hfM x2 (lb x4) x6) (cwV 3 cx.2.2.2.2.2.1 gl_62_v_f_Mcode rfl rfl rfl (by decide +kernel) ⟨Nat.le_of_ble_eq_true rfl, Nat.le_of_ble_eq_true rfl⟩) (hb12_m _ _ hmo) rfl rfl hl.1 rfl (Nat.le_of_ble_eq_true rfl) dL_law_410 ⟨by show _ ≤ 600002; omega, by show _ ≤ 7302232; omega⟩ (fun r19 u20 g21 H locs hp22 ha23 hb24 hw => ?_)
  refine lv_icmp_eq (tgt := 803) cx.1 cx.2.1 dL_law_413 (by decide) (fun ck => ?_) (fun ck => ?_)
  rotate_left
  · exact absurd (hp10.trans hp22.symm) ck
  exact law_end C0 rfl cx hw (lv_sub hl [4, 0] rfl) (by omega) (by omega)
set_option maxHeartbeats 4000000 in
set_option maxRecDepth 100000 in
theorem lc_7 {p : Program} {l : Launch} {e : Env} {s : State} {m : MethodId} {below : List Frame} {meth : Method} {c : Code} {b : Nat} {xs : Nat → Int32} (C0 : lw_At p s m meth c b 6 xs) (hst : l.stackTraces = false) {D : va_G} {cA : Nat → ClassId} {adK adV : Nat → Nat} {sr1 sr2 : Nat} {E : hp_N} (hEe : E = ev_E adK adV sr1 sr2) (cx : hp_C p c cL_law meth ret 7 s m #[Value.ref b] ⟨RL, meth.name, ""⟩ lw_tbl) {u1 uM g : hp_M} {xo mo o : Nat} {H : Heap} {locs : List Loc} {cells slots : Nat} {ls : Array Slot} (hw : hp_w D vwCl (hp_Tl cA) E (fun q => s.heap.size ≤ q) s H locs g) (hs1 : ∀ a e, u1 a = some e → g a = some e) (hsM : ∀ a e, uM a = some e → g a = some e) (hdis : ∀ a e, uM a = some e → u1 a = none) (hfX : fr_House cA u1 xo) (hfM : fr_Model cA uM mo) (hl : lv_has ls 7 [(4, .int 0), (3, .ref o), (2, .ref mo), (1, .ref xo), (0, .ref b)]) (hcc : cells ≤ 500000) (hss : slots ≤ 6000000) : W p l e room_1 s m #[Value.ref b] below meth c H locs cells slots (lw_Z below #[Value.ref b] s) (F0 m 418 ls []) := by
  obtain ⟨hx, hb, hr, hml, hown, hts, hX, hbl, hlocks, hgv⟩ := id C0
  have hbA : ¬ (fun q : Nat => s.heap.size ≤ q) b := Nat.not_le.mpr hbl
  obtain ⟨ax, hxo, -⟩ := id hfX
  obtain ⟨rx, hmo, -⟩ := id hfM
  have hsr1 : ∀ A U H, E A U H → vk_R "WardenHouse$Reader" 87 "the text has a fault" sr1 U := by rw [hEe]; exact fun _ _ _ h => h.2.2.2.2.2.1
  have hsr2 : ∀ A U H, E A U H → vk_R "WardenHouse" 208 "there is no program" sr2 U := by rw [hEe]; exact fun _ _ _ h => h.2.2.2.2.2.2
  have hthA : st_thr E "java/lang/IllegalArgumentException" := by rw [hEe]; exact ev_thA
  have hthS : st_thr E "java/lang/IllegalStateException" := by rw [hEe]; exact ev_thS
  refine lv_aload_n cx.1 cx.2.1 dL_law_418 rfl (lv_at hl 3 rfl) ?_
  refine lv_aload_n cx.1 cx.2.1 dL_law_419 rfl (lv_at hl 4 rfl) ?_
  refine lv_iload cx.1 cx.2.1 dL_law_420 (lv_at hl 0 rfl) ?_
  refine lv_iconst (v := 1) cx.1 cx.2.1 dL_law_422 (by decide) ?_
  refine lv_iadd cx.1 cx.2.1 dL_law_423 ?_
  refine lv_topi (fun z1 ez1 => ?_)
  obtain rfl : z1 = 1 := ez1.trans (by decide)
  refine va_sld cx.1 cx.2.1 hX hbl hbA hw.2.1 (show vp_in (1 : Int32) 6 by unfold vp_in; decide) dL_law_424 ?_
  refine lv_topi (fun x2 ex2 => ?_)
  refine hp_callFi (g1 := u1) (As := [.int x2]) (rest := []) cx hw hs1 (f_number l D cA E _ u1 xo hfX x2) (cwV 1 cx.2.2.2.2.2.1 gl_63_v_f_number rfl rfl rfl (by decide +kernel) ⟨Nat.le_of_ble_eq_true rfl, Nat.le_of_ble_eq_true rfl⟩) (hs1 _ _ hxo) rfl rfl hl.1 rfl (Nat.le_of_ble_eq_true rfl) dL_law_425 ⟨by show _ ≤ 600002; omega, by show _ ≤ 7302232; omega⟩ (fun r3 u4 g5 H locs hp6 ha7 hb8 hw => ?_)
  have hb8_m : ∀ a e, uM a = some e → g5 a = some e := fun a e h => hb8 a e (hsM a e h) (hdis a e h)
  refine lv_aload_n cx.1 cx.2.1 dL_law_428 rfl (lv_at hl 2 rfl) ?_
  refine lv_aload_n cx.1 cx.2.1 dL_law_429 rfl (lv_at hl 4 rfl) ?_
  refine lv_iload cx.1 cx.2.1 dL_law_430 (lv_at hl 0 rfl) ?_
  refine lv_iconst (v := 1) cx.1 cx.2.1 dL_law_432 (by decide) ?_
  refine lv_iadd cx.1 cx.2.1 dL_law_433 ?_
  refine lv_topi (fun z9 ez9 => ?_)
  obtain rfl : z9 = 1 := ez9.trans (by decide)
  refine va_sld cx.1 cx.2.1 hX hbl hbA hw.2.1 (show vp_in (1 : Int32) 6 by unfold vp_in; decide) dL_law_434 ?_
  refine lv_topi (fun x10 ex10 => ?_)
  obtain rfl : x2 = x10 := ex2.trans ex10.symm
  refine hp_callFi (g1 := uM) (As := [.int x2]) (rest := [.int r3]) cx hw hb8_m (f_Mnumber l D cA E _ uM mo hfM x2) (cwV 1 cx.2.2.2.2.2.1 gl_66_v_f_Mnumber rfl rfl rfl (by decide +kernel) ⟨Nat.le_of_ble_eq_true rfl, Nat.le_of_ble_eq_true rfl⟩) (hb8_m _ _ hmo) rfl rfl hl.1 rfl (Nat.le_of_ble_eq_true rfl) dL_law_435 ⟨by show _ ≤ 600002; omega, by show _ ≤ 7302232; omega⟩ (fun r11 u12 g13 H locs hp14 ha15 hb16 hw => ?_)
  refine lv_icmp_eq (tgt := 803) cx.1 cx.2.1 dL_law_438 (by decide) (fun ck => ?_) (fun ck => ?_)
  rotate_left
  · exact absurd (hp6.trans hp14.symm) ck
  exact law_end C0 rfl cx hw (lv_sub hl [4, 0] rfl) (by omega) (by omega)
set_option maxHeartbeats 4000000 in
set_option maxRecDepth 100000 in
theorem lc_8 {p : Program} {l : Launch} {e : Env} {s : State} {m : MethodId} {below : List Frame} {meth : Method} {c : Code} {b : Nat} {xs : Nat → Int32} (C0 : lw_At p s m meth c b 6 xs) (hst : l.stackTraces = false) {D : va_G} {cA : Nat → ClassId} {adK adV : Nat → Nat} {sr1 sr2 : Nat} {E : hp_N} (hEe : E = ev_E adK adV sr1 sr2) (cx : hp_C p c cL_law meth ret 7 s m #[Value.ref b] ⟨RL, meth.name, ""⟩ lw_tbl) {u1 uM g : hp_M} {xo mo o : Nat} {H : Heap} {locs : List Loc} {cells slots : Nat} {ls : Array Slot} (hw : hp_w D vwCl (hp_Tl cA) E (fun q => s.heap.size ≤ q) s H locs g) (hs1 : ∀ a e, u1 a = some e → g a = some e) (hsM : ∀ a e, uM a = some e → g a = some e) (hdis : ∀ a e, uM a = some e → u1 a = none) (hfX : fr_House cA u1 xo) (hfM : fr_Model cA uM mo) (hl : lv_has ls 7 [(4, .int 0), (3, .ref o), (2, .ref mo), (1, .ref xo), (0, .ref b)]) (hcc : cells ≤ 500000) (hss : slots ≤ 6000000) : W p l e room_1 s m #[Value.ref b] below meth c H locs cells slots (lw_Z below #[Value.ref b] s) (F0 m 443 ls []) := by
  obtain ⟨hx, hb, hr, hml, hown, hts, hX, hbl, hlocks, hgv⟩ := id C0
  have hbA : ¬ (fun q : Nat => s.heap.size ≤ q) b := Nat.not_le.mpr hbl
  obtain ⟨ax, hxo, -⟩ := id hfX
  obtain ⟨rx, hmo, -⟩ := id hfM
  have hsr1 : ∀ A U H, E A U H → vk_R "WardenHouse$Reader" 87 "the text has a fault" sr1 U := by rw [hEe]; exact fun _ _ _ h => h.2.2.2.2.2.1
  have hsr2 : ∀ A U H, E A U H → vk_R "WardenHouse" 208 "there is no program" sr2 U := by rw [hEe]; exact fun _ _ _ h => h.2.2.2.2.2.2
  have hthA : st_thr E "java/lang/IllegalArgumentException" := by rw [hEe]; exact ev_thA
  have hthS : st_thr E "java/lang/IllegalStateException" := by rw [hEe]; exact ev_thS
  refine lv_aload_n cx.1 cx.2.1 dL_law_443 rfl (lv_at hl 3 rfl) ?_
  refine lv_aload_n cx.1 cx.2.1 dL_law_444 rfl (lv_at hl 4 rfl) ?_
  refine lv_iload cx.1 cx.2.1 dL_law_445 (lv_at hl 0 rfl) ?_
  refine lv_iconst (v := 1) cx.1 cx.2.1 dL_law_447 (by decide) ?_
  refine lv_iadd cx.1 cx.2.1 dL_law_448 ?_
  refine lv_topi (fun z1 ez1 => ?_)
  obtain rfl : z1 = 1 := ez1.trans (by decide)
  refine va_sld cx.1 cx.2.1 hX hbl hbA hw.2.1 (show vp_in (1 : Int32) 6 by unfold vp_in; decide) dL_law_449 ?_
  refine lv_topi (fun x2 ex2 => ?_)
  refine hp_callFi (g1 := u1) (As := [.int x2]) (rest := []) cx hw hs1 (f_domain l D cA E _ u1 xo hfX x2) (cwV 1 cx.2.2.2.2.2.1 gl_67_v_f_domain rfl rfl rfl (by decide +kernel) ⟨Nat.le_of_ble_eq_true rfl, Nat.le_of_ble_eq_true rfl⟩) (hs1 _ _ hxo) rfl rfl hl.1 rfl (Nat.le_of_ble_eq_true rfl) dL_law_450 ⟨by show _ ≤ 600002; omega, by show _ ≤ 7302232; omega⟩ (fun r3 u4 g5 H locs hp6 ha7 hb8 hw => ?_)
  have hb8_m : ∀ a e, uM a = some e → g5 a = some e := fun a e h => hb8 a e (hsM a e h) (hdis a e h)
  refine lv_aload_n cx.1 cx.2.1 dL_law_453 rfl (lv_at hl 2 rfl) ?_
  refine lv_aload_n cx.1 cx.2.1 dL_law_454 rfl (lv_at hl 4 rfl) ?_
  refine lv_iload cx.1 cx.2.1 dL_law_455 (lv_at hl 0 rfl) ?_
  refine lv_iconst (v := 1) cx.1 cx.2.1 dL_law_457 (by decide) ?_
  refine lv_iadd cx.1 cx.2.1 dL_law_458 ?_
  refine lv_topi (fun z9 ez9 => ?_)
  obtain rfl : z9 = 1 := ez9.trans (by decide)
  refine va_sld cx.1 cx.2.1 hX hbl hbA hw.2.1 (show vp_in (1 : Int32) 6 by unfold vp_in; decide) dL_law_459 ?_
  refine lv_topi (fun x10 ex10 => ?_)
  obtain rfl : x2 = x10 := ex2.trans ex10.symm
  refine hp_callFi (g1 := uM) (As := [.int x2]) (rest := [.int r3]) cx hw hb8_m (f_Mdomain l D cA E _ uM mo hfM x2) (cwV 1 cx.2.2.2.2.2.1 gl_70_v_f_Mdomain rfl rfl rfl (by decide +kernel) ⟨Nat.le_of_ble_eq_true rfl, Nat.le_of_ble_eq_true rfl⟩) (hb8_m _ _ hmo) rfl rfl hl.1 rfl (Nat.le_of_ble_eq_true rfl) dL_law_460 ⟨by show _ ≤ 600002; omega, by show _ ≤ 7302232; omega⟩ (fun r11 u12 g13 H locs hp14 ha15 hb16 hw => ?_)
  refine lv_icmp_eq (tgt := 803) cx.1 cx.2.1 dL_law_463 (by decide) (fun ck => ?_) (fun ck => ?_)
  rotate_left
  · exact absurd (hp6.trans hp14.symm) ck
  exact law_end C0 rfl cx hw (lv_sub hl [4, 0] rfl) (by omega) (by omega)
set_option maxHeartbeats 4000000 in
set_option maxRecDepth 100000 in
theorem lc_9 {p : Program} {l : Launch} {e : Env} {s : State} {m : MethodId} {below : List Frame} {meth : Method} {c : Code} {b : Nat} {xs : Nat → Int32} (C0 : lw_At p s m meth c b 6 xs) (hst : l.stackTraces = false) {D : va_G} {cA : Nat → ClassId} {adK adV : Nat → Nat} {sr1 sr2 : Nat} {E : hp_N} (hEe : E = ev_E adK adV sr1 sr2) (cx : hp_C p c cL_law meth ret 7 s m #[Value.ref b] ⟨RL, meth.name, ""⟩ lw_tbl) {u1 uM g : hp_M} {xo mo o : Nat} {H : Heap} {locs : List Loc} {cells slots : Nat} {ls : Array Slot} (hw : hp_w D vwCl (hp_Tl cA) E (fun q => s.heap.size ≤ q) s H locs g) (hs1 : ∀ a e, u1 a = some e → g a = some e) (hsM : ∀ a e, uM a = some e → g a = some e) (hdis : ∀ a e, uM a = some e → u1 a = none) (hfX : fr_House cA u1 xo) (hfM : fr_Model cA uM mo) (hl : lv_has ls 7 [(4, .int 0), (3, .ref o), (2, .ref mo), (1, .ref xo), (0, .ref b)]) (hcc : cells ≤ 500000) (hss : slots ≤ 6000000) : W p l e room_1 s m #[Value.ref b] below meth c H locs cells slots (lw_Z below #[Value.ref b] s) (F0 m 468 ls []) := by
  obtain ⟨hx, hb, hr, hml, hown, hts, hX, hbl, hlocks, hgv⟩ := id C0
  have hbA : ¬ (fun q : Nat => s.heap.size ≤ q) b := Nat.not_le.mpr hbl
  obtain ⟨ax, hxo, -⟩ := id hfX
  obtain ⟨rx, hmo, -⟩ := id hfM
  have hsr1 : ∀ A U H, E A U H → vk_R "WardenHouse$Reader" 87 "the text has a fault" sr1 U := by rw [hEe]; exact fun _ _ _ h => h.2.2.2.2.2.1
  have hsr2 : ∀ A U H, E A U H → vk_R "WardenHouse" 208 "there is no program" sr2 U := by rw [hEe]; exact fun _ _ _ h => h.2.2.2.2.2.2
  have hthA : st_thr E "java/lang/IllegalArgumentException" := by rw [hEe]; exact ev_thA
  have hthS : st_thr E "java/lang/IllegalStateException" := by rw [hEe]; exact ev_thS
  refine lv_aload_n cx.1 cx.2.1 dL_law_468 rfl (lv_at hl 3 rfl) ?_
  refine hp_callFi (g1 := u1) (As := []) (rest := []) cx hw hs1 (f_asks l D cA E _ u1 xo hfX ) (cwV 0 cx.2.2.2.2.2.1 gl_71_v_f_asks rfl rfl rfl (by decide +kernel) ⟨Nat.le_of_ble_eq_true rfl, Nat.le_of_ble_eq_true rfl⟩) (hs1 _ _ hxo) rfl rfl hl.1 rfl (Nat.le_of_ble_eq_true rfl) dL_law_469 ⟨by show _ ≤ 600002; omega, by show _ ≤ 7302232; omega⟩ (fun r1 u2 g3 H locs hp4 ha5 hb6 hw => ?_)
  have hb6_m : ∀ a e, uM a = some e → g3 a = some e := fun a e h => hb6 a e (hsM a e h) (hdis a e h)
  refine lv_aload_n cx.1 cx.2.1 dL_law_472 rfl (lv_at hl 2 rfl) ?_
  refine hp_callFi (g1 := uM) (As := []) (rest := [.int r1]) cx hw hb6_m (f_Masks l D cA E _ uM mo hfM ) (cwV 0 cx.2.2.2.2.2.1 gl_75_v_f_Masks rfl rfl rfl (by decide +kernel) ⟨Nat.le_of_ble_eq_true rfl, Nat.le_of_ble_eq_true rfl⟩) (hb6_m _ _ hmo) rfl rfl hl.1 rfl (Nat.le_of_ble_eq_true rfl) dL_law_473 ⟨by show _ ≤ 600002; omega, by show _ ≤ 7302232; omega⟩ (fun r7 u8 g9 H locs hp10 ha11 hb12 hw => ?_)
  refine lv_icmp_eq (tgt := 803) cx.1 cx.2.1 dL_law_476 (by decide) (fun ck => ?_) (fun ck => ?_)
  rotate_left
  · exact absurd (hp4.trans hp10.symm) ck
  exact law_end C0 rfl cx hw (lv_sub hl [4, 0] rfl) (by omega) (by omega)
set_option maxHeartbeats 4000000 in
set_option maxRecDepth 100000 in
theorem lc_10 {p : Program} {l : Launch} {e : Env} {s : State} {m : MethodId} {below : List Frame} {meth : Method} {c : Code} {b : Nat} {xs : Nat → Int32} (C0 : lw_At p s m meth c b 6 xs) (hst : l.stackTraces = false) {D : va_G} {cA : Nat → ClassId} {adK adV : Nat → Nat} {sr1 sr2 : Nat} {E : hp_N} (hEe : E = ev_E adK adV sr1 sr2) (cx : hp_C p c cL_law meth ret 7 s m #[Value.ref b] ⟨RL, meth.name, ""⟩ lw_tbl) {u1 uM g : hp_M} {xo mo o : Nat} {H : Heap} {locs : List Loc} {cells slots : Nat} {ls : Array Slot} (hw : hp_w D vwCl (hp_Tl cA) E (fun q => s.heap.size ≤ q) s H locs g) (hs1 : ∀ a e, u1 a = some e → g a = some e) (hsM : ∀ a e, uM a = some e → g a = some e) (hdis : ∀ a e, uM a = some e → u1 a = none) (hfX : fr_House cA u1 xo) (hfM : fr_Model cA uM mo) (hl : lv_has ls 7 [(4, .int 0), (3, .ref o), (2, .ref mo), (1, .ref xo), (0, .ref b)]) (hcc : cells ≤ 500000) (hss : slots ≤ 6000000) : W p l e room_1 s m #[Value.ref b] below meth c H locs cells slots (lw_Z below #[Value.ref b] s) (F0 m 481 ls []) := by
  obtain ⟨hx, hb, hr, hml, hown, hts, hX, hbl, hlocks, hgv⟩ := id C0
  have hbA : ¬ (fun q : Nat => s.heap.size ≤ q) b := Nat.not_le.mpr hbl
  obtain ⟨ax, hxo, -⟩ := id hfX
  obtain ⟨rx, hmo, -⟩ := id hfM
  have hsr1 : ∀ A U H, E A U H → vk_R "WardenHouse$Reader" 87 "the text has a fault" sr1 U := by rw [hEe]; exact fun _ _ _ h => h.2.2.2.2.2.1
  have hsr2 : ∀ A U H, E A U H → vk_R "WardenHouse" 208 "there is no program" sr2 U := by rw [hEe]; exact fun _ _ _ h => h.2.2.2.2.2.2
  have hthA : st_thr E "java/lang/IllegalArgumentException" := by rw [hEe]; exact ev_thA
  have hthS : st_thr E "java/lang/IllegalStateException" := by rw [hEe]; exact ev_thS
  refine lv_aload_n cx.1 cx.2.1 dL_law_481 rfl (lv_at hl 3 rfl) ?_
  refine lv_aload_n cx.1 cx.2.1 dL_law_482 rfl (lv_at hl 4 rfl) ?_
  refine lv_iload cx.1 cx.2.1 dL_law_483 (lv_at hl 0 rfl) ?_
  refine lv_iconst (v := 1) cx.1 cx.2.1 dL_law_485 (by decide) ?_
  refine lv_iadd cx.1 cx.2.1 dL_law_486 ?_
  refine lv_topi (fun z1 ez1 => ?_)
  obtain rfl : z1 = 1 := ez1.trans (by decide)
  refine va_sld cx.1 cx.2.1 hX hbl hbA hw.2.1 (show vp_in (1 : Int32) 6 by unfold vp_in; decide) dL_law_487 ?_
  refine lv_topi (fun x2 ex2 => ?_)
  refine lv_aload_n cx.1 cx.2.1 dL_law_488 rfl (lv_at hl 4 rfl) ?_
  refine lv_iload cx.1 cx.2.1 dL_law_489 (lv_at hl 0 rfl) ?_
  refine lv_iconst (v := 2) cx.1 cx.2.1 dL_law_491 (by decide) ?_
  refine lv_iadd cx.1 cx.2.1 dL_law_492 ?_
  refine lv_topi (fun z3 ez3 => ?_)
  obtain rfl : z3 = 2 := ez3.trans (by decide)
  refine va_sld cx.1 cx.2.1 hX hbl hbA hw.2.1 (show vp_in (2 : Int32) 6 by unfold vp_in; decide) dL_law_493 ?_
  refine lv_topi (fun x4 ex4 => ?_)
  refine lw_bool (tz := 501) (tj := 502) cx dL_law_494 (by decide) dL_law_497 dL_law_498 (by decide) dL_law_501 rfl ?_
  refine hp_callFi (g1 := u1) (As := [.int x2, .int (lb x4)]) (rest := []) cx hw hs1 (f_has l D cA E _ u1 xo hfX x2 (lb x4)) (cwV 2 cx.2.2.2.2.2.1 gl_76_v_f_has rfl rfl rfl (by decide +kernel) ⟨Nat.le_of_ble_eq_true rfl, Nat.le_of_ble_eq_true rfl⟩) (hs1 _ _ hxo) rfl rfl hl.1 rfl (Nat.le_of_ble_eq_true rfl) dL_law_502 ⟨by show _ ≤ 600002; omega, by show _ ≤ 7302232; omega⟩ (fun r5 u6 g7 H locs hp8 ha9 hb10 hw => ?_)
  have hb10_m : ∀ a e, uM a = some e → g7 a = some e := fun a e h => hb10 a e (hsM a e h) (hdis a e h)
  refine lv_aload_n cx.1 cx.2.1 dL_law_505 rfl (lv_at hl 2 rfl) ?_
  refine lv_aload_n cx.1 cx.2.1 dL_law_506 rfl (lv_at hl 4 rfl) ?_
  refine lv_iload cx.1 cx.2.1 dL_law_507 (lv_at hl 0 rfl) ?_
  refine lv_iconst (v := 1) cx.1 cx.2.1 dL_law_509 (by decide) ?_
  refine lv_iadd cx.1 cx.2.1 dL_law_510 ?_
  refine lv_topi (fun z11 ez11 => ?_)
  obtain rfl : z11 = 1 := ez11.trans (by decide)
  refine va_sld cx.1 cx.2.1 hX hbl hbA hw.2.1 (show vp_in (1 : Int32) 6 by unfold vp_in; decide) dL_law_511 ?_
  refine lv_topi (fun x12 ex12 => ?_)
  obtain rfl : x2 = x12 := ex2.trans ex12.symm
  refine lv_aload_n cx.1 cx.2.1 dL_law_512 rfl (lv_at hl 4 rfl) ?_
  refine lv_iload cx.1 cx.2.1 dL_law_513 (lv_at hl 0 rfl) ?_
  refine lv_iconst (v := 2) cx.1 cx.2.1 dL_law_515 (by decide) ?_
  refine lv_iadd cx.1 cx.2.1 dL_law_516 ?_
  refine lv_topi (fun z13 ez13 => ?_)
  obtain rfl : z13 = 2 := ez13.trans (by decide)
  refine va_sld cx.1 cx.2.1 hX hbl hbA hw.2.1 (show vp_in (2 : Int32) 6 by unfold vp_in; decide) dL_law_517 ?_
  refine lv_topi (fun x14 ex14 => ?_)
  obtain rfl : x4 = x14 := ex4.trans ex14.symm
  refine lw_bool (tz := 525) (tj := 526) cx dL_law_518 (by decide) dL_law_521 dL_law_522 (by decide) dL_law_525 rfl ?_
  refine hp_callFi (g1 := uM) (As := [.int x2, .int (lb x4)]) (rest := [.int r5]) cx hw hb10_m (f_Mhas l D cA E _ uM mo hfM x2 (lb x4)) (cwV 2 cx.2.2.2.2.2.1 gl_80_v_f_Mhas rfl rfl rfl (by decide +kernel) ⟨Nat.le_of_ble_eq_true rfl, Nat.le_of_ble_eq_true rfl⟩) (hb10_m _ _ hmo) rfl rfl hl.1 rfl (Nat.le_of_ble_eq_true rfl) dL_law_526 ⟨by show _ ≤ 600002; omega, by show _ ≤ 7302232; omega⟩ (fun r15 u16 g17 H locs hp18 ha19 hb20 hw => ?_)
  refine lv_icmp_eq (tgt := 803) cx.1 cx.2.1 dL_law_529 (by decide) (fun ck => ?_) (fun ck => ?_)
  rotate_left
  · exact absurd (hp8.trans hp18.symm) ck
  exact law_end C0 rfl cx hw (lv_sub hl [4, 0] rfl) (by omega) (by omega)
set_option maxHeartbeats 4000000 in
set_option maxRecDepth 100000 in
theorem lc_11 {p : Program} {l : Launch} {e : Env} {s : State} {m : MethodId} {below : List Frame} {meth : Method} {c : Code} {b : Nat} {xs : Nat → Int32} (C0 : lw_At p s m meth c b 6 xs) (hst : l.stackTraces = false) {D : va_G} {cA : Nat → ClassId} {adK adV : Nat → Nat} {sr1 sr2 : Nat} {E : hp_N} (hEe : E = ev_E adK adV sr1 sr2) (cx : hp_C p c cL_law meth ret 7 s m #[Value.ref b] ⟨RL, meth.name, ""⟩ lw_tbl) {u1 uM g : hp_M} {xo mo o : Nat} {H : Heap} {locs : List Loc} {cells slots : Nat} {ls : Array Slot} (hw : hp_w D vwCl (hp_Tl cA) E (fun q => s.heap.size ≤ q) s H locs g) (hs1 : ∀ a e, u1 a = some e → g a = some e) (hsM : ∀ a e, uM a = some e → g a = some e) (hdis : ∀ a e, uM a = some e → u1 a = none) (hfX : fr_House cA u1 xo) (hfM : fr_Model cA uM mo) (hl : lv_has ls 7 [(4, .int 0), (3, .ref o), (2, .ref mo), (1, .ref xo), (0, .ref b)]) (hcc : cells ≤ 500000) (hss : slots ≤ 6000000) : W p l e room_1 s m #[Value.ref b] below meth c H locs cells slots (lw_Z below #[Value.ref b] s) (F0 m 534 ls []) := by
  obtain ⟨hx, hb, hr, hml, hown, hts, hX, hbl, hlocks, hgv⟩ := id C0
  have hbA : ¬ (fun q : Nat => s.heap.size ≤ q) b := Nat.not_le.mpr hbl
  obtain ⟨ax, hxo, -⟩ := id hfX
  obtain ⟨rx, hmo, -⟩ := id hfM
  have hsr1 : ∀ A U H, E A U H → vk_R "WardenHouse$Reader" 87 "the text has a fault" sr1 U := by rw [hEe]; exact fun _ _ _ h => h.2.2.2.2.2.1
  have hsr2 : ∀ A U H, E A U H → vk_R "WardenHouse" 208 "there is no program" sr2 U := by rw [hEe]; exact fun _ _ _ h => h.2.2.2.2.2.2
  have hthA : st_thr E "java/lang/IllegalArgumentException" := by rw [hEe]; exact ev_thA
  have hthS : st_thr E "java/lang/IllegalStateException" := by rw [hEe]; exact ev_thS
  refine lv_aload_n cx.1 cx.2.1 dL_law_534 rfl (lv_at hl 3 rfl) ?_
  refine lv_aload_n cx.1 cx.2.1 dL_law_535 rfl (lv_at hl 4 rfl) ?_
  refine lv_iload cx.1 cx.2.1 dL_law_536 (lv_at hl 0 rfl) ?_
  refine lv_iconst (v := 1) cx.1 cx.2.1 dL_law_538 (by decide) ?_
  refine lv_iadd cx.1 cx.2.1 dL_law_539 ?_
  refine lv_topi (fun z1 ez1 => ?_)
  obtain rfl : z1 = 1 := ez1.trans (by decide)
  refine va_sld cx.1 cx.2.1 hX hbl hbA hw.2.1 (show vp_in (1 : Int32) 6 by unfold vp_in; decide) dL_law_540 ?_
  refine lv_topi (fun x2 ex2 => ?_)
  refine hp_callFi (g1 := u1) (As := [.int x2]) (rest := []) cx hw hs1 (f_may l D cA E _ u1 xo hfX x2) (cwV 1 cx.2.2.2.2.2.1 gl_81_v_f_may rfl rfl rfl (by decide +kernel) ⟨Nat.le_of_ble_eq_true rfl, Nat.le_of_ble_eq_true rfl⟩) (hs1 _ _ hxo) rfl rfl hl.1 rfl (Nat.le_of_ble_eq_true rfl) dL_law_541 ⟨by show _ ≤ 600002; omega, by show _ ≤ 7302232; omega⟩ (fun r3 u4 g5 H locs hp6 ha7 hb8 hw => ?_)
  have hb8_m : ∀ a e, uM a = some e → g5 a = some e := fun a e h => hb8 a e (hsM a e h) (hdis a e h)
  refine lv_aload_n cx.1 cx.2.1 dL_law_544 rfl (lv_at hl 2 rfl) ?_
  refine lv_aload_n cx.1 cx.2.1 dL_law_545 rfl (lv_at hl 4 rfl) ?_
  refine lv_iload cx.1 cx.2.1 dL_law_546 (lv_at hl 0 rfl) ?_
  refine lv_iconst (v := 1) cx.1 cx.2.1 dL_law_548 (by decide) ?_
  refine lv_iadd cx.1 cx.2.1 dL_law_549 ?_
  refine lv_topi (fun z9 ez9 => ?_)
  obtain rfl : z9 = 1 := ez9.trans (by decide)
  refine va_sld cx.1 cx.2.1 hX hbl hbA hw.2.1 (show vp_in (1 : Int32) 6 by unfold vp_in; decide) dL_law_550 ?_
  refine lv_topi (fun x10 ex10 => ?_)
  obtain rfl : x2 = x10 := ex2.trans ex10.symm
  refine hp_callFi (g1 := uM) (As := [.int x2]) (rest := [.int r3]) cx hw hb8_m (f_Mmay l D cA E _ uM mo hfM x2) (cwV 1 cx.2.2.2.2.2.1 gl_84_v_f_Mmay rfl rfl rfl (by decide +kernel) ⟨Nat.le_of_ble_eq_true rfl, Nat.le_of_ble_eq_true rfl⟩) (hb8_m _ _ hmo) rfl rfl hl.1 rfl (Nat.le_of_ble_eq_true rfl) dL_law_551 ⟨by show _ ≤ 600002; omega, by show _ ≤ 7302232; omega⟩ (fun r11 u12 g13 H locs hp14 ha15 hb16 hw => ?_)
  refine lv_icmp_eq (tgt := 803) cx.1 cx.2.1 dL_law_554 (by decide) (fun ck => ?_) (fun ck => ?_)
  rotate_left
  · exact absurd (hp6.trans hp14.symm) ck
  exact law_end C0 rfl cx hw (lv_sub hl [4, 0] rfl) (by omega) (by omega)
set_option maxHeartbeats 4000000 in
set_option maxRecDepth 100000 in
theorem lc_12 {p : Program} {l : Launch} {e : Env} {s : State} {m : MethodId} {below : List Frame} {meth : Method} {c : Code} {b : Nat} {xs : Nat → Int32} (C0 : lw_At p s m meth c b 6 xs) (hst : l.stackTraces = false) {D : va_G} {cA : Nat → ClassId} {adK adV : Nat → Nat} {sr1 sr2 : Nat} {E : hp_N} (hEe : E = ev_E adK adV sr1 sr2) (cx : hp_C p c cL_law meth ret 7 s m #[Value.ref b] ⟨RL, meth.name, ""⟩ lw_tbl) {u1 uM g : hp_M} {xo mo o : Nat} {H : Heap} {locs : List Loc} {cells slots : Nat} {ls : Array Slot} (hw : hp_w D vwCl (hp_Tl cA) E (fun q => s.heap.size ≤ q) s H locs g) (hs1 : ∀ a e, u1 a = some e → g a = some e) (hsM : ∀ a e, uM a = some e → g a = some e) (hdis : ∀ a e, uM a = some e → u1 a = none) (hfX : fr_House cA u1 xo) (hfM : fr_Model cA uM mo) (hl : lv_has ls 7 [(4, .int 0), (3, .ref o), (2, .ref mo), (1, .ref xo), (0, .ref b)]) (hcc : cells ≤ 500000) (hss : slots ≤ 6000000) : W p l e room_1 s m #[Value.ref b] below meth c H locs cells slots (lw_Z below #[Value.ref b] s) (F0 m 559 ls []) := by
  obtain ⟨hx, hb, hr, hml, hown, hts, hX, hbl, hlocks, hgv⟩ := id C0
  have hbA : ¬ (fun q : Nat => s.heap.size ≤ q) b := Nat.not_le.mpr hbl
  obtain ⟨ax, hxo, -⟩ := id hfX
  obtain ⟨rx, hmo, -⟩ := id hfM
  have hsr1 : ∀ A U H, E A U H → vk_R "WardenHouse$Reader" 87 "the text has a fault" sr1 U := by rw [hEe]; exact fun _ _ _ h => h.2.2.2.2.2.1
  have hsr2 : ∀ A U H, E A U H → vk_R "WardenHouse" 208 "there is no program" sr2 U := by rw [hEe]; exact fun _ _ _ h => h.2.2.2.2.2.2
  have hthA : st_thr E "java/lang/IllegalArgumentException" := by rw [hEe]; exact ev_thA
  have hthS : st_thr E "java/lang/IllegalStateException" := by rw [hEe]; exact ev_thS
  refine lv_aload_n cx.1 cx.2.1 dL_law_559 rfl (lv_at hl 3 rfl) ?_
  refine lv_aload_n cx.1 cx.2.1 dL_law_560 rfl (lv_at hl 4 rfl) ?_
  refine lv_iload cx.1 cx.2.1 dL_law_561 (lv_at hl 0 rfl) ?_
  refine lv_iconst (v := 1) cx.1 cx.2.1 dL_law_563 (by decide) ?_
  refine lv_iadd cx.1 cx.2.1 dL_law_564 ?_
  refine lv_topi (fun z1 ez1 => ?_)
  obtain rfl : z1 = 1 := ez1.trans (by decide)
  refine va_sld cx.1 cx.2.1 hX hbl hbA hw.2.1 (show vp_in (1 : Int32) 6 by unfold vp_in; decide) dL_law_565 ?_
  refine lv_topi (fun x2 ex2 => ?_)
  refine lv_aload_n cx.1 cx.2.1 dL_law_566 rfl (lv_at hl 4 rfl) ?_
  refine lv_iload cx.1 cx.2.1 dL_law_567 (lv_at hl 0 rfl) ?_
  refine lv_iconst (v := 2) cx.1 cx.2.1 dL_law_569 (by decide) ?_
  refine lv_iadd cx.1 cx.2.1 dL_law_570 ?_
  refine lv_topi (fun z3 ez3 => ?_)
  obtain rfl : z3 = 2 := ez3.trans (by decide)
  refine va_sld cx.1 cx.2.1 hX hbl hbA hw.2.1 (show vp_in (2 : Int32) 6 by unfold vp_in; decide) dL_law_571 ?_
  refine lv_topi (fun x4 ex4 => ?_)
  refine lv_aload_n cx.1 cx.2.1 dL_law_572 rfl (lv_at hl 4 rfl) ?_
  refine lv_iload cx.1 cx.2.1 dL_law_573 (lv_at hl 0 rfl) ?_
  refine lv_iconst (v := 3) cx.1 cx.2.1 dL_law_575 (by decide) ?_
  refine lv_iadd cx.1 cx.2.1 dL_law_576 ?_
  refine lv_topi (fun z5 ez5 => ?_)
  obtain rfl : z5 = 3 := ez5.trans (by decide)
  refine va_sld cx.1 cx.2.1 hX hbl hbA hw.2.1 (show vp_in (3 : Int32) 6 by unfold vp_in; decide) dL_law_577 ?_
  refine lv_topi (fun x6 ex6 => ?_)
  refine lv_aload_n cx.1 cx.2.1 dL_law_578 rfl (lv_at hl 4 rfl) ?_
  refine lv_iload cx.1 cx.2.1 dL_law_579 (lv_at hl 0 rfl) ?_
  refine lv_iconst (v := 4) cx.1 cx.2.1 dL_law_581 (by decide) ?_
  refine lv_iadd cx.1 cx.2.1 dL_law_582 ?_
  refine lv_topi (fun z7 ez7 => ?_)
  obtain rfl : z7 = 4 := ez7.trans (by decide)
  refine va_sld cx.1 cx.2.1 hX hbl hbA hw.2.1 (show vp_in (4 : Int32) 6 by unfold vp_in; decide) dL_law_583 ?_
  refine lv_topi (fun x8 ex8 => ?_)
  refine lw_bool (tz := 591) (tj := 592) cx dL_law_584 (by decide) dL_law_587 dL_law_588 (by decide) dL_law_591 rfl ?_
  refine lv_aload_n cx.1 cx.2.1 dL_law_592 rfl (lv_at hl 1 rfl) ?_
  refine hp_callFW (g1 := u1) (As := [.ref xo, .int x2, .int x4, .int x6, .int (lb x8), .ref o]) (rest := []) cx hw hs1 (k_Lrun l D cA E _ u1 hst hthS _ hsr2 xo o hfX x2 x4 x6 (lb x8)) (vx_cwSW 6 cx.2.2.2.2.2.1 gl_85_v_Lrun rfl rfl rfl (by decide +kernel) ⟨Nat.le_of_ble_eq_true rfl, Nat.le_of_ble_eq_true rfl⟩) rfl hl.1 rfl (Nat.le_of_ble_eq_true rfl) dL_law_593 ⟨by show _ ≤ 600002; omega, by show _ ≤ 7302232; omega⟩ (fun r9 u10 g11 H locs hp12 ha13 hb14 hw => ?_)
  have hb14_m : ∀ a e, uM a = some e → g11 a = some e := fun a e h => hb14 a e (hsM a e h) (hdis a e h)
  subst hp12
  refine lv_istore (lv' := [(5, .int 1), (4, .int 0), (3, .ref o), (2, .ref mo), (1, .ref xo), (0, .ref b)]) cx.1 cx.2.1 dL_law_596 hl (by decide) rfl (fun ls hl => ?_)
  refine lv_aload_n cx.1 cx.2.1 dL_law_598 rfl (lv_at hl 3 rfl) ?_
  refine lv_aload_n cx.1 cx.2.1 dL_law_599 rfl (lv_at hl 5 rfl) ?_
  refine lv_iload cx.1 cx.2.1 dL_law_600 (lv_at hl 1 rfl) ?_
  refine lv_iconst (v := 1) cx.1 cx.2.1 dL_law_602 (by decide) ?_
  refine lv_iadd cx.1 cx.2.1 dL_law_603 ?_
  refine lv_topi (fun z15 ez15 => ?_)
  obtain rfl : z15 = 1 := ez15.trans (by decide)
  refine va_sld cx.1 cx.2.1 hX hbl hbA hw.2.1 (show vp_in (1 : Int32) 6 by unfold vp_in; decide) dL_law_604 ?_
  refine lv_topi (fun x16 ex16 => ?_)
  obtain rfl : x2 = x16 := ex2.trans ex16.symm
  refine lv_aload_n cx.1 cx.2.1 dL_law_605 rfl (lv_at hl 5 rfl) ?_
  refine lv_iload cx.1 cx.2.1 dL_law_606 (lv_at hl 1 rfl) ?_
  refine lv_iconst (v := 2) cx.1 cx.2.1 dL_law_608 (by decide) ?_
  refine lv_iadd cx.1 cx.2.1 dL_law_609 ?_
  refine lv_topi (fun z17 ez17 => ?_)
  obtain rfl : z17 = 2 := ez17.trans (by decide)
  refine va_sld cx.1 cx.2.1 hX hbl hbA hw.2.1 (show vp_in (2 : Int32) 6 by unfold vp_in; decide) dL_law_610 ?_
  refine lv_topi (fun x18 ex18 => ?_)
  obtain rfl : x4 = x18 := ex4.trans ex18.symm
  refine lv_aload_n cx.1 cx.2.1 dL_law_611 rfl (lv_at hl 5 rfl) ?_
  refine lv_iload cx.1 cx.2.1 dL_law_612 (lv_at hl 1 rfl) ?_
  refine lv_iconst (v := 3) cx.1 cx.2.1 dL_law_614 (by decide) ?_
  refine lv_iadd cx.1 cx.2.1 dL_law_615 ?_
  refine lv_topi (fun z19 ez19 => ?_)
  obtain rfl : z19 = 3 := ez19.trans (by decide)
  refine va_sld cx.1 cx.2.1 hX hbl hbA hw.2.1 (show vp_in (3 : Int32) 6 by unfold vp_in; decide) dL_law_616 ?_
  refine lv_topi (fun x20 ex20 => ?_)
  obtain rfl : x6 = x20 := ex6.trans ex20.symm
  refine lv_aload_n cx.1 cx.2.1 dL_law_617 rfl (lv_at hl 5 rfl) ?_
  refine lv_iload cx.1 cx.2.1 dL_law_618 (lv_at hl 1 rfl) ?_
  refine lv_iconst (v := 4) cx.1 cx.2.1 dL_law_620 (by decide) ?_
  refine lv_iadd cx.1 cx.2.1 dL_law_621 ?_
  refine lv_topi (fun z21 ez21 => ?_)
  obtain rfl : z21 = 4 := ez21.trans (by decide)
  refine va_sld cx.1 cx.2.1 hX hbl hbA hw.2.1 (show vp_in (4 : Int32) 6 by unfold vp_in; decide) dL_law_622 ?_
  refine lv_topi (fun x22 ex22 => ?_)
  obtain rfl : x8 = x22 := ex8.trans ex22.symm
  refine lw_bool (tz := 630) (tj := 631) cx dL_law_623 (by decide) dL_law_626 dL_law_627 (by decide) dL_law_630 rfl ?_
  refine hp_callFi (g1 := uM) (As := [.int x2, .int x4, .int x6, .int (lb x8)]) (rest := []) cx hw hb14_m (f_Mrun l D cA E _ uM mo hfM x2 x4 x6 (lb x8)) (cwV 4 cx.2.2.2.2.2.1 gl_88_v_f_Mrun rfl rfl rfl (by decide +kernel) ⟨Nat.le_of_ble_eq_true rfl, Nat.le_of_ble_eq_true rfl⟩) (hb14_m _ _ hmo) rfl rfl hl.1 rfl (Nat.le_of_ble_eq_true rfl) dL_law_631 ⟨by show _ ≤ 600002; omega, by show _ ≤ 7302232; omega⟩ (fun r23 u24 g25 H locs hp26 ha27 hb28 hw => ?_)
  obtain ⟨tfs, thh, thL, th0⟩ := hp26
  refine lv_istore (lv' := [(6, .int r23), (5, .int 1), (4, .int 0), (3, .ref o), (2, .ref mo), (1, .ref xo), (0, .ref b)]) cx.1 cx.2.1 dL_law_634 hl (by decide) rfl (fun ls hl => ?_)
  refine lv_aload_n cx.1 cx.2.1 dL_law_636 rfl (lv_at hl 4 rfl) ?_
  refine hp_callFi (g1 := u24) (As := []) (rest := []) cx hw ha27 (k_thrown l D cA E _ u24 1 mo tfs thL thh th0) (cwV 0 cx.2.2.2.2.2.1 gl_41_v_k_thrown rfl rfl rfl (by decide +kernel) ⟨Nat.le_of_ble_eq_true rfl, Nat.le_of_ble_eq_true rfl⟩) (ha27 _ _ thh) rfl rfl hl.1 rfl (Nat.le_of_ble_eq_true rfl) dL_law_637 ⟨by show _ ≤ 600002; omega, by show _ ≤ 7302232; omega⟩ (fun r29 u30 g31 H locs hp32 ha33 hb34 hw => ?_)
  obtain ⟨-, rfl⟩ := hp32
  refine lv_iload cx.1 cx.2.1 dL_law_640 (lv_at hl 1 rfl) ?_
  refine lv_icmp_eq (tgt := 647) cx.1 cx.2.1 dL_law_642 (by decide) (fun ck => ?_) (fun ck => ?_)
  rotate_left
  · exact absurd rfl ck
  refine lv_iload cx.1 cx.2.1 dL_law_647 (lv_at hl 1 rfl) ?_
  refine lv_if_ne (tgt := 664) cx.1 cx.2.1 dL_law_649 (by decide) (fun ck => ?_) (fun ck => ?_)
  rotate_left
  · exact absurd ck (by decide)
  refine lv_goto (tgt := 803) cx.1 cx.2.1 dL_law_664 (by decide) ?_
  exact law_end C0 rfl cx hw (lv_sub hl [6, 2] rfl) (by omega) (by omega)
set_option maxHeartbeats 4000000 in
set_option maxRecDepth 100000 in
theorem lc_13 {p : Program} {l : Launch} {e : Env} {s : State} {m : MethodId} {below : List Frame} {meth : Method} {c : Code} {b : Nat} {xs : Nat → Int32} (C0 : lw_At p s m meth c b 6 xs) (hst : l.stackTraces = false) {D : va_G} {cA : Nat → ClassId} {adK adV : Nat → Nat} {sr1 sr2 : Nat} {E : hp_N} (hEe : E = ev_E adK adV sr1 sr2) (cx : hp_C p c cL_law meth ret 7 s m #[Value.ref b] ⟨RL, meth.name, ""⟩ lw_tbl) {u1 uM g : hp_M} {xo mo o : Nat} {H : Heap} {locs : List Loc} {cells slots : Nat} {ls : Array Slot} (hw : hp_w D vwCl (hp_Tl cA) E (fun q => s.heap.size ≤ q) s H locs g) (hs1 : ∀ a e, u1 a = some e → g a = some e) (hsM : ∀ a e, uM a = some e → g a = some e) (hdis : ∀ a e, uM a = some e → u1 a = none) (hfX : fr_House cA u1 xo) (hfM : fr_Model cA uM mo) (hl : lv_has ls 7 [(4, .int 0), (3, .ref o), (2, .ref mo), (1, .ref xo), (0, .ref b)]) (hcc : cells ≤ 500000) (hss : slots ≤ 6000000) : W p l e room_1 s m #[Value.ref b] below meth c H locs cells slots (lw_Z below #[Value.ref b] s) (F0 m 667 ls []) := by
  obtain ⟨hx, hb, hr, hml, hown, hts, hX, hbl, hlocks, hgv⟩ := id C0
  have hbA : ¬ (fun q : Nat => s.heap.size ≤ q) b := Nat.not_le.mpr hbl
  obtain ⟨ax, hxo, -⟩ := id hfX
  obtain ⟨rx, hmo, -⟩ := id hfM
  have hsr1 : ∀ A U H, E A U H → vk_R "WardenHouse$Reader" 87 "the text has a fault" sr1 U := by rw [hEe]; exact fun _ _ _ h => h.2.2.2.2.2.1
  have hsr2 : ∀ A U H, E A U H → vk_R "WardenHouse" 208 "there is no program" sr2 U := by rw [hEe]; exact fun _ _ _ h => h.2.2.2.2.2.2
  have hthA : st_thr E "java/lang/IllegalArgumentException" := by rw [hEe]; exact ev_thA
  have hthS : st_thr E "java/lang/IllegalStateException" := by rw [hEe]; exact ev_thS
  refine lv_aload_n cx.1 cx.2.1 dL_law_667 rfl (lv_at hl 3 rfl) ?_
  refine lv_aload_n cx.1 cx.2.1 dL_law_668 rfl (lv_at hl 4 rfl) ?_
  refine lv_iload cx.1 cx.2.1 dL_law_669 (lv_at hl 0 rfl) ?_
  refine lv_iconst (v := 1) cx.1 cx.2.1 dL_law_671 (by decide) ?_
  refine lv_iadd cx.1 cx.2.1 dL_law_672 ?_
  refine lv_topi (fun z1 ez1 => ?_)
  obtain rfl : z1 = 1 := ez1.trans (by decide)
  refine va_sld cx.1 cx.2.1 hX hbl hbA hw.2.1 (show vp_in (1 : Int32) 6 by unfold vp_in; decide) dL_law_673 ?_
  refine lv_topi (fun x2 ex2 => ?_)
  refine hp_callFi (g1 := u1) (As := [.int x2]) (rest := []) cx hw hs1 (f_result l D cA E _ u1 xo hfX x2) (cwV 1 cx.2.2.2.2.2.1 gl_89_v_f_result rfl rfl rfl (by decide +kernel) ⟨Nat.le_of_ble_eq_true rfl, Nat.le_of_ble_eq_true rfl⟩) (hs1 _ _ hxo) rfl rfl hl.1 rfl (Nat.le_of_ble_eq_true rfl) dL_law_674 ⟨by show _ ≤ 600002; omega, by show _ ≤ 7302232; omega⟩ (fun r3 u4 g5 H locs hp6 ha7 hb8 hw => ?_)
  have hb8_m : ∀ a e, uM a = some e → g5 a = some e := fun a e h => hb8 a e (hsM a e h) (hdis a e h)
  refine lv_aload_n cx.1 cx.2.1 dL_law_677 rfl (lv_at hl 2 rfl) ?_
  refine lv_aload_n cx.1 cx.2.1 dL_law_678 rfl (lv_at hl 4 rfl) ?_
  refine lv_iload cx.1 cx.2.1 dL_law_679 (lv_at hl 0 rfl) ?_
  refine lv_iconst (v := 1) cx.1 cx.2.1 dL_law_681 (by decide) ?_
  refine lv_iadd cx.1 cx.2.1 dL_law_682 ?_
  refine lv_topi (fun z9 ez9 => ?_)
  obtain rfl : z9 = 1 := ez9.trans (by decide)
  refine va_sld cx.1 cx.2.1 hX hbl hbA hw.2.1 (show vp_in (1 : Int32) 6 by unfold vp_in; decide) dL_law_683 ?_
  refine lv_topi (fun x10 ex10 => ?_)
  obtain rfl : x2 = x10 := ex2.trans ex10.symm
  refine hp_callFi (g1 := uM) (As := [.int x2]) (rest := [.int r3]) cx hw hb8_m (f_Mresult l D cA E _ uM mo hfM x2) (cwV 1 cx.2.2.2.2.2.1 gl_92_v_f_Mresult rfl rfl rfl (by decide +kernel) ⟨Nat.le_of_ble_eq_true rfl, Nat.le_of_ble_eq_true rfl⟩) (hb8_m _ _ hmo) rfl rfl hl.1 rfl (Nat.le_of_ble_eq_true rfl) dL_law_684 ⟨by show _ ≤ 600002; omega, by show _ ≤ 7302232; omega⟩ (fun r11 u12 g13 H locs hp14 ha15 hb16 hw => ?_)
  refine lv_icmp_eq (tgt := 803) cx.1 cx.2.1 dL_law_687 (by decide) (fun ck => ?_) (fun ck => ?_)
  rotate_left
  · exact absurd (hp6.trans hp14.symm) ck
  exact law_end C0 rfl cx hw (lv_sub hl [4, 0] rfl) (by omega) (by omega)
set_option maxHeartbeats 4000000 in
set_option maxRecDepth 100000 in
theorem lc_14 {p : Program} {l : Launch} {e : Env} {s : State} {m : MethodId} {below : List Frame} {meth : Method} {c : Code} {b : Nat} {xs : Nat → Int32} (C0 : lw_At p s m meth c b 6 xs) (hst : l.stackTraces = false) {D : va_G} {cA : Nat → ClassId} {adK adV : Nat → Nat} {sr1 sr2 : Nat} {E : hp_N} (hEe : E = ev_E adK adV sr1 sr2) (cx : hp_C p c cL_law meth ret 7 s m #[Value.ref b] ⟨RL, meth.name, ""⟩ lw_tbl) {u1 uM g : hp_M} {xo mo o : Nat} {H : Heap} {locs : List Loc} {cells slots : Nat} {ls : Array Slot} (hw : hp_w D vwCl (hp_Tl cA) E (fun q => s.heap.size ≤ q) s H locs g) (hs1 : ∀ a e, u1 a = some e → g a = some e) (hsM : ∀ a e, uM a = some e → g a = some e) (hdis : ∀ a e, uM a = some e → u1 a = none) (hfX : fr_House cA u1 xo) (hfM : fr_Model cA uM mo) (hl : lv_has ls 7 [(4, .int 0), (3, .ref o), (2, .ref mo), (1, .ref xo), (0, .ref b)]) (hcc : cells ≤ 500000) (hss : slots ≤ 6000000) : W p l e room_1 s m #[Value.ref b] below meth c H locs cells slots (lw_Z below #[Value.ref b] s) (F0 m 692 ls []) := by
  obtain ⟨hx, hb, hr, hml, hown, hts, hX, hbl, hlocks, hgv⟩ := id C0
  have hbA : ¬ (fun q : Nat => s.heap.size ≤ q) b := Nat.not_le.mpr hbl
  obtain ⟨ax, hxo, -⟩ := id hfX
  obtain ⟨rx, hmo, -⟩ := id hfM
  have hsr1 : ∀ A U H, E A U H → vk_R "WardenHouse$Reader" 87 "the text has a fault" sr1 U := by rw [hEe]; exact fun _ _ _ h => h.2.2.2.2.2.1
  have hsr2 : ∀ A U H, E A U H → vk_R "WardenHouse" 208 "there is no program" sr2 U := by rw [hEe]; exact fun _ _ _ h => h.2.2.2.2.2.2
  have hthA : st_thr E "java/lang/IllegalArgumentException" := by rw [hEe]; exact ev_thA
  have hthS : st_thr E "java/lang/IllegalStateException" := by rw [hEe]; exact ev_thS
  refine lv_aload_n cx.1 cx.2.1 dL_law_692 rfl (lv_at hl 3 rfl) ?_
  refine lv_aload_n cx.1 cx.2.1 dL_law_693 rfl (lv_at hl 4 rfl) ?_
  refine lv_iload cx.1 cx.2.1 dL_law_694 (lv_at hl 0 rfl) ?_
  refine lv_iconst (v := 1) cx.1 cx.2.1 dL_law_696 (by decide) ?_
  refine lv_iadd cx.1 cx.2.1 dL_law_697 ?_
  refine lv_topi (fun z1 ez1 => ?_)
  obtain rfl : z1 = 1 := ez1.trans (by decide)
  refine va_sld cx.1 cx.2.1 hX hbl hbA hw.2.1 (show vp_in (1 : Int32) 6 by unfold vp_in; decide) dL_law_698 ?_
  refine lv_topi (fun x2 ex2 => ?_)
  refine lv_aload_n cx.1 cx.2.1 dL_law_699 rfl (lv_at hl 4 rfl) ?_
  refine lv_iload cx.1 cx.2.1 dL_law_700 (lv_at hl 0 rfl) ?_
  refine lv_iconst (v := 2) cx.1 cx.2.1 dL_law_702 (by decide) ?_
  refine lv_iadd cx.1 cx.2.1 dL_law_703 ?_
  refine lv_topi (fun z3 ez3 => ?_)
  obtain rfl : z3 = 2 := ez3.trans (by decide)
  refine va_sld cx.1 cx.2.1 hX hbl hbA hw.2.1 (show vp_in (2 : Int32) 6 by unfold vp_in; decide) dL_law_704 ?_
  refine lv_topi (fun x4 ex4 => ?_)
  refine hp_callFi (g1 := u1) (As := [.int x2, .int x4]) (rest := []) cx hw hs1 (f_event l D cA E _ u1 xo hfX x2 x4) (cwV 2 cx.2.2.2.2.2.1 gl_93_v_f_event rfl rfl rfl (by decide +kernel) ⟨Nat.le_of_ble_eq_true rfl, Nat.le_of_ble_eq_true rfl⟩) (hs1 _ _ hxo) rfl rfl hl.1 rfl (Nat.le_of_ble_eq_true rfl) dL_law_705 ⟨by show _ ≤ 600002; omega, by show _ ≤ 7302232; omega⟩ (fun r5 u6 g7 H locs hp8 ha9 hb10 hw => ?_)
  have hb10_m : ∀ a e, uM a = some e → g7 a = some e := fun a e h => hb10 a e (hsM a e h) (hdis a e h)
  refine lv_aload_n cx.1 cx.2.1 dL_law_708 rfl (lv_at hl 2 rfl) ?_
  refine lv_aload_n cx.1 cx.2.1 dL_law_709 rfl (lv_at hl 4 rfl) ?_
  refine lv_iload cx.1 cx.2.1 dL_law_710 (lv_at hl 0 rfl) ?_
  refine lv_iconst (v := 1) cx.1 cx.2.1 dL_law_712 (by decide) ?_
  refine lv_iadd cx.1 cx.2.1 dL_law_713 ?_
  refine lv_topi (fun z11 ez11 => ?_)
  obtain rfl : z11 = 1 := ez11.trans (by decide)
  refine va_sld cx.1 cx.2.1 hX hbl hbA hw.2.1 (show vp_in (1 : Int32) 6 by unfold vp_in; decide) dL_law_714 ?_
  refine lv_topi (fun x12 ex12 => ?_)
  obtain rfl : x2 = x12 := ex2.trans ex12.symm
  refine lv_aload_n cx.1 cx.2.1 dL_law_715 rfl (lv_at hl 4 rfl) ?_
  refine lv_iload cx.1 cx.2.1 dL_law_716 (lv_at hl 0 rfl) ?_
  refine lv_iconst (v := 2) cx.1 cx.2.1 dL_law_718 (by decide) ?_
  refine lv_iadd cx.1 cx.2.1 dL_law_719 ?_
  refine lv_topi (fun z13 ez13 => ?_)
  obtain rfl : z13 = 2 := ez13.trans (by decide)
  refine va_sld cx.1 cx.2.1 hX hbl hbA hw.2.1 (show vp_in (2 : Int32) 6 by unfold vp_in; decide) dL_law_720 ?_
  refine lv_topi (fun x14 ex14 => ?_)
  obtain rfl : x4 = x14 := ex4.trans ex14.symm
  refine hp_callFi (g1 := uM) (As := [.int x2, .int x4]) (rest := [.int r5]) cx hw hb10_m (f_Mevent l D cA E _ uM mo hfM x2 x4) (cwV 2 cx.2.2.2.2.2.1 gl_96_v_f_Mevent rfl rfl rfl (by decide +kernel) ⟨Nat.le_of_ble_eq_true rfl, Nat.le_of_ble_eq_true rfl⟩) (hb10_m _ _ hmo) rfl rfl hl.1 rfl (Nat.le_of_ble_eq_true rfl) dL_law_721 ⟨by show _ ≤ 600002; omega, by show _ ≤ 7302232; omega⟩ (fun r15 u16 g17 H locs hp18 ha19 hb20 hw => ?_)
  refine lv_icmp_eq (tgt := 803) cx.1 cx.2.1 dL_law_724 (by decide) (fun ck => ?_) (fun ck => ?_)
  rotate_left
  · exact absurd (hp8.trans hp18.symm) ck
  exact law_end C0 rfl cx hw (lv_sub hl [4, 0] rfl) (by omega) (by omega)
set_option maxHeartbeats 4000000 in
set_option maxRecDepth 100000 in
theorem lc_15 {p : Program} {l : Launch} {e : Env} {s : State} {m : MethodId} {below : List Frame} {meth : Method} {c : Code} {b : Nat} {xs : Nat → Int32} (C0 : lw_At p s m meth c b 6 xs) (hst : l.stackTraces = false) {D : va_G} {cA : Nat → ClassId} {adK adV : Nat → Nat} {sr1 sr2 : Nat} {E : hp_N} (hEe : E = ev_E adK adV sr1 sr2) (cx : hp_C p c cL_law meth ret 7 s m #[Value.ref b] ⟨RL, meth.name, ""⟩ lw_tbl) {u1 uM g : hp_M} {xo mo o : Nat} {H : Heap} {locs : List Loc} {cells slots : Nat} {ls : Array Slot} (hw : hp_w D vwCl (hp_Tl cA) E (fun q => s.heap.size ≤ q) s H locs g) (hs1 : ∀ a e, u1 a = some e → g a = some e) (hsM : ∀ a e, uM a = some e → g a = some e) (hdis : ∀ a e, uM a = some e → u1 a = none) (hfX : fr_House cA u1 xo) (hfM : fr_Model cA uM mo) (hl : lv_has ls 7 [(4, .int 0), (3, .ref o), (2, .ref mo), (1, .ref xo), (0, .ref b)]) (hcc : cells ≤ 500000) (hss : slots ≤ 6000000) : W p l e room_1 s m #[Value.ref b] below meth c H locs cells slots (lw_Z below #[Value.ref b] s) (F0 m 729 ls []) := by
  obtain ⟨hx, hb, hr, hml, hown, hts, hX, hbl, hlocks, hgv⟩ := id C0
  have hbA : ¬ (fun q : Nat => s.heap.size ≤ q) b := Nat.not_le.mpr hbl
  obtain ⟨ax, hxo, -⟩ := id hfX
  obtain ⟨rx, hmo, -⟩ := id hfM
  have hsr1 : ∀ A U H, E A U H → vk_R "WardenHouse$Reader" 87 "the text has a fault" sr1 U := by rw [hEe]; exact fun _ _ _ h => h.2.2.2.2.2.1
  have hsr2 : ∀ A U H, E A U H → vk_R "WardenHouse" 208 "there is no program" sr2 U := by rw [hEe]; exact fun _ _ _ h => h.2.2.2.2.2.2
  have hthA : st_thr E "java/lang/IllegalArgumentException" := by rw [hEe]; exact ev_thA
  have hthS : st_thr E "java/lang/IllegalStateException" := by rw [hEe]; exact ev_thS
  refine lv_aload_n cx.1 cx.2.1 dL_law_729 rfl (lv_at hl 3 rfl) ?_
  refine lv_aload_n cx.1 cx.2.1 dL_law_730 rfl (lv_at hl 4 rfl) ?_
  refine lv_iload cx.1 cx.2.1 dL_law_731 (lv_at hl 0 rfl) ?_
  refine lv_iconst (v := 1) cx.1 cx.2.1 dL_law_733 (by decide) ?_
  refine lv_iadd cx.1 cx.2.1 dL_law_734 ?_
  refine lv_topi (fun z1 ez1 => ?_)
  obtain rfl : z1 = 1 := ez1.trans (by decide)
  refine va_sld cx.1 cx.2.1 hX hbl hbA hw.2.1 (show vp_in (1 : Int32) 6 by unfold vp_in; decide) dL_law_735 ?_
  refine lv_topi (fun x2 ex2 => ?_)
  refine lv_aload_n cx.1 cx.2.1 dL_law_736 rfl (lv_at hl 4 rfl) ?_
  refine lv_iload cx.1 cx.2.1 dL_law_737 (lv_at hl 0 rfl) ?_
  refine lv_iconst (v := 2) cx.1 cx.2.1 dL_law_739 (by decide) ?_
  refine lv_iadd cx.1 cx.2.1 dL_law_740 ?_
  refine lv_topi (fun z3 ez3 => ?_)
  obtain rfl : z3 = 2 := ez3.trans (by decide)
  refine va_sld cx.1 cx.2.1 hX hbl hbA hw.2.1 (show vp_in (2 : Int32) 6 by unfold vp_in; decide) dL_law_741 ?_
  refine lv_topi (fun x4 ex4 => ?_)
  refine hp_callFi (g1 := u1) (As := [.int x2, .int x4]) (rest := []) cx hw hs1 (f_thread l D cA E _ u1 xo hfX x2 x4) (cwV 2 cx.2.2.2.2.2.1 gl_97_v_f_thread rfl rfl rfl (by decide +kernel) ⟨Nat.le_of_ble_eq_true rfl, Nat.le_of_ble_eq_true rfl⟩) (hs1 _ _ hxo) rfl rfl hl.1 rfl (Nat.le_of_ble_eq_true rfl) dL_law_742 ⟨by show _ ≤ 600002; omega, by show _ ≤ 7302232; omega⟩ (fun r5 u6 g7 H locs hp8 ha9 hb10 hw => ?_)
  have hb10_m : ∀ a e, uM a = some e → g7 a = some e := fun a e h => hb10 a e (hsM a e h) (hdis a e h)
  refine lv_aload_n cx.1 cx.2.1 dL_law_745 rfl (lv_at hl 2 rfl) ?_
  refine lv_aload_n cx.1 cx.2.1 dL_law_746 rfl (lv_at hl 4 rfl) ?_
  refine lv_iload cx.1 cx.2.1 dL_law_747 (lv_at hl 0 rfl) ?_
  refine lv_iconst (v := 1) cx.1 cx.2.1 dL_law_749 (by decide) ?_
  refine lv_iadd cx.1 cx.2.1 dL_law_750 ?_
  refine lv_topi (fun z11 ez11 => ?_)
  obtain rfl : z11 = 1 := ez11.trans (by decide)
  refine va_sld cx.1 cx.2.1 hX hbl hbA hw.2.1 (show vp_in (1 : Int32) 6 by unfold vp_in; decide) dL_law_751 ?_
  refine lv_topi (fun x12 ex12 => ?_)
  obtain rfl : x2 = x12 := ex2.trans ex12.symm
  refine lv_aload_n cx.1 cx.2.1 dL_law_752 rfl (lv_at hl 4 rfl) ?_
  refine lv_iload cx.1 cx.2.1 dL_law_753 (lv_at hl 0 rfl) ?_
  refine lv_iconst (v := 2) cx.1 cx.2.1 dL_law_755 (by decide) ?_
  refine lv_iadd cx.1 cx.2.1 dL_law_756 ?_
  refine lv_topi (fun z13 ez13 => ?_)
  obtain rfl : z13 = 2 := ez13.trans (by decide)
  refine va_sld cx.1 cx.2.1 hX hbl hbA hw.2.1 (show vp_in (2 : Int32) 6 by unfold vp_in; decide) dL_law_757 ?_
  refine lv_topi (fun x14 ex14 => ?_)
  obtain rfl : x4 = x14 := ex4.trans ex14.symm
  refine hp_callFi (g1 := uM) (As := [.int x2, .int x4]) (rest := [.int r5]) cx hw hb10_m (f_Mthread l D cA E _ uM mo hfM x2 x4) (cwV 2 cx.2.2.2.2.2.1 gl_100_v_f_Mthread rfl rfl rfl (by decide +kernel) ⟨Nat.le_of_ble_eq_true rfl, Nat.le_of_ble_eq_true rfl⟩) (hb10_m _ _ hmo) rfl rfl hl.1 rfl (Nat.le_of_ble_eq_true rfl) dL_law_758 ⟨by show _ ≤ 600002; omega, by show _ ≤ 7302232; omega⟩ (fun r15 u16 g17 H locs hp18 ha19 hb20 hw => ?_)
  refine lv_icmp_eq (tgt := 803) cx.1 cx.2.1 dL_law_761 (by decide) (fun ck => ?_) (fun ck => ?_)
  rotate_left
  · exact absurd (hp8.trans hp18.symm) ck
  exact law_end C0 rfl cx hw (lv_sub hl [4, 0] rfl) (by omega) (by omega)
set_option maxHeartbeats 4000000 in
set_option maxRecDepth 100000 in
theorem lc_16 {p : Program} {l : Launch} {e : Env} {s : State} {m : MethodId} {below : List Frame} {meth : Method} {c : Code} {b : Nat} {xs : Nat → Int32} (C0 : lw_At p s m meth c b 6 xs) (hst : l.stackTraces = false) {D : va_G} {cA : Nat → ClassId} {adK adV : Nat → Nat} {sr1 sr2 : Nat} {E : hp_N} (hEe : E = ev_E adK adV sr1 sr2) (cx : hp_C p c cL_law meth ret 7 s m #[Value.ref b] ⟨RL, meth.name, ""⟩ lw_tbl) {u1 uM g : hp_M} {xo mo o : Nat} {H : Heap} {locs : List Loc} {cells slots : Nat} {ls : Array Slot} (hw : hp_w D vwCl (hp_Tl cA) E (fun q => s.heap.size ≤ q) s H locs g) (hs1 : ∀ a e, u1 a = some e → g a = some e) (hsM : ∀ a e, uM a = some e → g a = some e) (hdis : ∀ a e, uM a = some e → u1 a = none) (hfX : fr_House cA u1 xo) (hfM : fr_Model cA uM mo) (hl : lv_has ls 7 [(4, .int 0), (3, .ref o), (2, .ref mo), (1, .ref xo), (0, .ref b)]) (hcc : cells ≤ 500000) (hss : slots ≤ 6000000) : W p l e room_1 s m #[Value.ref b] below meth c H locs cells slots (lw_Z below #[Value.ref b] s) (F0 m 766 ls []) := by
  obtain ⟨hx, hb, hr, hml, hown, hts, hX, hbl, hlocks, hgv⟩ := id C0
  have hbA : ¬ (fun q : Nat => s.heap.size ≤ q) b := Nat.not_le.mpr hbl
  obtain ⟨ax, hxo, -⟩ := id hfX
  obtain ⟨rx, hmo, -⟩ := id hfM
  have hsr1 : ∀ A U H, E A U H → vk_R "WardenHouse$Reader" 87 "the text has a fault" sr1 U := by rw [hEe]; exact fun _ _ _ h => h.2.2.2.2.2.1
  have hsr2 : ∀ A U H, E A U H → vk_R "WardenHouse" 208 "there is no program" sr2 U := by rw [hEe]; exact fun _ _ _ h => h.2.2.2.2.2.2
  have hthA : st_thr E "java/lang/IllegalArgumentException" := by rw [hEe]; exact ev_thA
  have hthS : st_thr E "java/lang/IllegalStateException" := by rw [hEe]; exact ev_thS
  refine lv_aload_n cx.1 cx.2.1 dL_law_766 rfl (lv_at hl 3 rfl) ?_
  refine lv_aload_n cx.1 cx.2.1 dL_law_767 rfl (lv_at hl 4 rfl) ?_
  refine lv_iload cx.1 cx.2.1 dL_law_768 (lv_at hl 0 rfl) ?_
  refine lv_iconst (v := 1) cx.1 cx.2.1 dL_law_770 (by decide) ?_
  refine lv_iadd cx.1 cx.2.1 dL_law_771 ?_
  refine lv_topi (fun z1 ez1 => ?_)
  obtain rfl : z1 = 1 := ez1.trans (by decide)
  refine va_sld cx.1 cx.2.1 hX hbl hbA hw.2.1 (show vp_in (1 : Int32) 6 by unfold vp_in; decide) dL_law_772 ?_
  refine lv_topi (fun x2 ex2 => ?_)
  refine lv_aload_n cx.1 cx.2.1 dL_law_773 rfl (lv_at hl 4 rfl) ?_
  refine lv_iload cx.1 cx.2.1 dL_law_774 (lv_at hl 0 rfl) ?_
  refine lv_iconst (v := 2) cx.1 cx.2.1 dL_law_776 (by decide) ?_
  refine lv_iadd cx.1 cx.2.1 dL_law_777 ?_
  refine lv_topi (fun z3 ez3 => ?_)
  obtain rfl : z3 = 2 := ez3.trans (by decide)
  refine va_sld cx.1 cx.2.1 hX hbl hbA hw.2.1 (show vp_in (2 : Int32) 6 by unfold vp_in; decide) dL_law_778 ?_
  refine lv_topi (fun x4 ex4 => ?_)
  refine hp_callFi (g1 := u1) (As := [.int x2, .int x4]) (rest := []) cx hw hs1 (f_context l D cA E _ u1 xo hfX x2 x4) (cwV 2 cx.2.2.2.2.2.1 gl_101_v_f_context rfl rfl rfl (by decide +kernel) ⟨Nat.le_of_ble_eq_true rfl, Nat.le_of_ble_eq_true rfl⟩) (hs1 _ _ hxo) rfl rfl hl.1 rfl (Nat.le_of_ble_eq_true rfl) dL_law_779 ⟨by show _ ≤ 600002; omega, by show _ ≤ 7302232; omega⟩ (fun r5 u6 g7 H locs hp8 ha9 hb10 hw => ?_)
  have hb10_m : ∀ a e, uM a = some e → g7 a = some e := fun a e h => hb10 a e (hsM a e h) (hdis a e h)
  refine lv_aload_n cx.1 cx.2.1 dL_law_782 rfl (lv_at hl 2 rfl) ?_
  refine lv_aload_n cx.1 cx.2.1 dL_law_783 rfl (lv_at hl 4 rfl) ?_
  refine lv_iload cx.1 cx.2.1 dL_law_784 (lv_at hl 0 rfl) ?_
  refine lv_iconst (v := 1) cx.1 cx.2.1 dL_law_786 (by decide) ?_
  refine lv_iadd cx.1 cx.2.1 dL_law_787 ?_
  refine lv_topi (fun z11 ez11 => ?_)
  obtain rfl : z11 = 1 := ez11.trans (by decide)
  refine va_sld cx.1 cx.2.1 hX hbl hbA hw.2.1 (show vp_in (1 : Int32) 6 by unfold vp_in; decide) dL_law_788 ?_
  refine lv_topi (fun x12 ex12 => ?_)
  obtain rfl : x2 = x12 := ex2.trans ex12.symm
  refine lv_aload_n cx.1 cx.2.1 dL_law_789 rfl (lv_at hl 4 rfl) ?_
  refine lv_iload cx.1 cx.2.1 dL_law_790 (lv_at hl 0 rfl) ?_
  refine lv_iconst (v := 2) cx.1 cx.2.1 dL_law_792 (by decide) ?_
  refine lv_iadd cx.1 cx.2.1 dL_law_793 ?_
  refine lv_topi (fun z13 ez13 => ?_)
  obtain rfl : z13 = 2 := ez13.trans (by decide)
  refine va_sld cx.1 cx.2.1 hX hbl hbA hw.2.1 (show vp_in (2 : Int32) 6 by unfold vp_in; decide) dL_law_794 ?_
  refine lv_topi (fun x14 ex14 => ?_)
  obtain rfl : x4 = x14 := ex4.trans ex14.symm
  refine hp_callFi (g1 := uM) (As := [.int x2, .int x4]) (rest := [.int r5]) cx hw hb10_m (f_Mcontext l D cA E _ uM mo hfM x2 x4) (cwV 2 cx.2.2.2.2.2.1 gl_104_v_f_Mcontext rfl rfl rfl (by decide +kernel) ⟨Nat.le_of_ble_eq_true rfl, Nat.le_of_ble_eq_true rfl⟩) (hb10_m _ _ hmo) rfl rfl hl.1 rfl (Nat.le_of_ble_eq_true rfl) dL_law_795 ⟨by show _ ≤ 600002; omega, by show _ ≤ 7302232; omega⟩ (fun r15 u16 g17 H locs hp18 ha19 hb20 hw => ?_)
  refine lv_icmp_eq (tgt := 803) cx.1 cx.2.1 dL_law_798 (by decide) (fun ck => ?_) (fun ck => ?_)
  rotate_left
  · exact absurd (hp8.trans hp18.symm) ck
  exact law_end C0 rfl cx hw (lv_sub hl [4, 0] rfl) (by omega) (by omega)
