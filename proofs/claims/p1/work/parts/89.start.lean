theorem sub_one {mo : Nat} {x : va_E} {g g2 : hp_M} (h : g2 = hp_up g mo x) : ∀ a e, hp_up hp_0 mo x a = some e → g2 a = some e := by
  intro a e ha
  by_cases q : a = mo
  · subst q
    rw [hp_up_self] at ha
    rw [h, hp_up_self]; exact ha
  · rw [hp_up_ne _ _ q] at ha
    cases ha
theorem one_none {mo a : Nat} {x : va_E} (h : a ≠ mo) : hp_up hp_0 mo x a = none := by rw [hp_up_ne _ _ h]; rfl
set_option maxHeartbeats 4000000 in
set_option maxRecDepth 100000 in
theorem law_cases {p : Program} {l : Launch} {e : Env} {s : State} {m : MethodId} {below : List Frame} {meth : Method} {c : Code} {b : Nat} {xs : Nat → Int32} (C0 : lw_At p s m meth c b 6 xs) (hst : l.stackTraces = false) {D : va_G} {cA : Nat → ClassId} {adK adV : Nat → Nat} {sr1 sr2 : Nat} {E : hp_N} (hEe : E = ev_E adK adV sr1 sr2) (cx : hp_C p c cL_law meth ret 7 s m #[Value.ref b] ⟨RL, meth.name, ""⟩ lw_tbl) {u1 uM g : hp_M} {xo mo o : Nat} {H : Heap} {locs : List Loc} {cells slots : Nat} {ls : Array Slot} (hw : hp_w D vwCl (hp_Tl cA) E (fun q => s.heap.size ≤ q) s H locs g) (hs1 : ∀ a e, u1 a = some e → g a = some e) (hsM : ∀ a e, uM a = some e → g a = some e) (hdis : ∀ a e, uM a = some e → u1 a = none) (hfX : fr_House cA u1 xo) (hfM : fr_Model cA uM mo) (hl : lv_has ls 7 [(4, .int 0), (3, .ref o), (2, .ref mo), (1, .ref xo), (0, .ref b)]) (hcc : cells ≤ 500000) (hss : slots ≤ 6000000) (v : Int32) : W p l e room_1 s m #[Value.ref b] below meth c H locs cells slots (lw_Z below #[Value.ref b] s) (F0 m 40 ls [.int (v &&& 31)]) := by
  obtain ⟨j, hj, ej⟩ := pk_andE v (m := 31) 5 (by decide)
  refine lv_topi (fun z ez => ?_)
  obtain rfl : z = nI j := ez.trans ej
  rcases (show j = 0 ∨ j = 1 ∨ j = 2 ∨ j = 3 ∨ j = 4 ∨ j = 5 ∨ j = 6 ∨ j = 7 ∨ j = 8 ∨ j = 9 ∨ j = 10 ∨ j = 11 ∨ j = 12 ∨ j = 13 ∨ j = 14 ∨ j = 15 ∨ j = 16 ∨ 17 ≤ j by omega) with rfl | rfl | rfl | rfl | rfl | rfl | rfl | rfl | rfl | rfl | rfl | rfl | rfl | rfl | rfl | rfl | rfl | hge
  · refine lv_tableIn (off := 84) (tgt := 124) cx.1 cx.2.1 dL_law_40 (by decide) (by decide) (by decide) (by decide) ?_
    exact lc_0 C0 hst hEe cx hw hs1 hsM hdis hfX hfM hl hcc hss
  · refine lv_tableIn (off := 157) (tgt := 197) cx.1 cx.2.1 dL_law_40 (by decide) (by decide) (by decide) (by decide) ?_
    exact lc_1 C0 hst hEe cx hw hs1 hsM hdis hfX hfM hl hcc hss
  · refine lv_tableIn (off := 182) (tgt := 222) cx.1 cx.2.1 dL_law_40 (by decide) (by decide) (by decide) (by decide) ?_
    exact lc_2 C0 hst hEe cx hw hs1 hsM hdis hfX hfM hl hcc hss
  · refine lv_tableIn (off := 226) (tgt := 266) cx.1 cx.2.1 dL_law_40 (by decide) (by decide) (by decide) (by decide) ?_
    exact lc_3 C0 hst hEe cx hw hs1 hsM hdis hfX hfM hl hcc hss
  · refine lv_tableIn (off := 251) (tgt := 291) cx.1 cx.2.1 dL_law_40 (by decide) (by decide) (by decide) (by decide) ?_
    exact lc_4 C0 hst hEe cx hw hs1 hsM hdis hfX hfM hl hcc hss
  · refine lv_tableIn (off := 276) (tgt := 316) cx.1 cx.2.1 dL_law_40 (by decide) (by decide) (by decide) (by decide) ?_
    exact lc_5 C0 hst hEe cx hw hs1 hsM hdis hfX hfM hl hcc hss
  · refine lv_tableIn (off := 313) (tgt := 353) cx.1 cx.2.1 dL_law_40 (by decide) (by decide) (by decide) (by decide) ?_
    exact lc_6 C0 hst hEe cx hw hs1 hsM hdis hfX hfM hl hcc hss
  · refine lv_tableIn (off := 378) (tgt := 418) cx.1 cx.2.1 dL_law_40 (by decide) (by decide) (by decide) (by decide) ?_
    exact lc_7 C0 hst hEe cx hw hs1 hsM hdis hfX hfM hl hcc hss
  · refine lv_tableIn (off := 403) (tgt := 443) cx.1 cx.2.1 dL_law_40 (by decide) (by decide) (by decide) (by decide) ?_
    exact lc_8 C0 hst hEe cx hw hs1 hsM hdis hfX hfM hl hcc hss
  · refine lv_tableIn (off := 428) (tgt := 468) cx.1 cx.2.1 dL_law_40 (by decide) (by decide) (by decide) (by decide) ?_
    exact lc_9 C0 hst hEe cx hw hs1 hsM hdis hfX hfM hl hcc hss
  · refine lv_tableIn (off := 441) (tgt := 481) cx.1 cx.2.1 dL_law_40 (by decide) (by decide) (by decide) (by decide) ?_
    exact lc_10 C0 hst hEe cx hw hs1 hsM hdis hfX hfM hl hcc hss
  · refine lv_tableIn (off := 494) (tgt := 534) cx.1 cx.2.1 dL_law_40 (by decide) (by decide) (by decide) (by decide) ?_
    exact lc_11 C0 hst hEe cx hw hs1 hsM hdis hfX hfM hl hcc hss
  · refine lv_tableIn (off := 519) (tgt := 559) cx.1 cx.2.1 dL_law_40 (by decide) (by decide) (by decide) (by decide) ?_
    exact lc_12 C0 hst hEe cx hw hs1 hsM hdis hfX hfM hl hcc hss
  · refine lv_tableIn (off := 627) (tgt := 667) cx.1 cx.2.1 dL_law_40 (by decide) (by decide) (by decide) (by decide) ?_
    exact lc_13 C0 hst hEe cx hw hs1 hsM hdis hfX hfM hl hcc hss
  · refine lv_tableIn (off := 652) (tgt := 692) cx.1 cx.2.1 dL_law_40 (by decide) (by decide) (by decide) (by decide) ?_
    exact lc_14 C0 hst hEe cx hw hs1 hsM hdis hfX hfM hl hcc hss
  · refine lv_tableIn (off := 689) (tgt := 729) cx.1 cx.2.1 dL_law_40 (by decide) (by decide) (by decide) (by decide) ?_
    exact lc_15 C0 hst hEe cx hw hs1 hsM hdis hfX hfM hl hcc hss
  · refine lv_tableIn (off := 726) (tgt := 766) cx.1 cx.2.1 dL_law_40 (by decide) (by decide) (by decide) (by decide) ?_
    exact lc_16 C0 hst hEe cx hw hs1 hsM hdis hfX hfM hl hcc hss
  · refine lv_tableOut (tgt := 803) cx.1 cx.2.1 dL_law_40 (Or.inr (by rw [nI_toInt (by omega)]; omega)) (by decide) ?_
    exact law_end C0 rfl cx hw (lv_sub hl [4, 0] rfl) (by omega) (by omega)
set_option maxHeartbeats 4000000 in
set_option maxRecDepth 100000 in
/-- THE LAW, from its entry -/
theorem whole_start {p : Program} {e : Env} {s : State} {m : MethodId} {below : List Frame} {meth : Method} {c : Code} (l : Launch) (hst : l.stackTraces = false) {b L : Nat} {xs : Nat → Int32} (hL : L ≤ 6) (C0 : lw_At p s m meth c b L xs) : W p l e room_1 s m #[Value.ref b] below meth c s.heap [] 0 0 (lw_Z below #[Value.ref b] s) (entryFrame m ([Value.ref b] : List Value).toArray 7) := by
  obtain ⟨hx, hb, hr, hml, hown, hts, hX, hbl, hlocks, hgv⟩ := id C0
  have hbA : ¬ (fun q : Nat => s.heap.size ≤ q) b := Nat.not_le.mpr hbl
  have cx : hp_C p c cL_law meth ret 7 s m #[Value.ref b] ⟨RL, meth.name, ""⟩ lw_tbl := ⟨hx, hb, hr, hml, hown, hts, hlocks, rfl⟩
  obtain ⟨dC, dI, hKc⟩ := cl_all hts
  obtain ⟨adK, adV, sr1, sr2, hE⟩ := ev_start (A := fun q : Nat => s.heap.size ≤ q) hts hgv (fun a h q => absurd h (Nat.not_lt.mpr q))
  obtain ⟨cA, hTA⟩ := ar_all (hts (.arrayClass .byte) (by decide +kernel)) (hts (.arrayClass .int) (by decide +kernel)) (hts (.arrayClass .long) (by decide +kernel)) (hts (.arrayClass .boolean) (by decide +kernel)) hE.1.1 hE.1.2.1 hE.1.2.2
  have hw : hp_w (dC, dI) vwCl (hp_Tl cA) (ev_E adK adV sr1 sr2) (fun q => s.heap.size ≤ q) s s.heap [] hp_0 := ⟨hp_is0, va_S.rf, ⟨hKc, hTA⟩, fun _ h => h, ev_good adK adV sr1 sr2, hE⟩
  have hl := lv_entry ([.ref b]) (n := 7) (Nat.le_of_ble_eq_true rfl)
  rw [lg_entry_eq]
  generalize (lg_sl ([.ref b]) ++ List.replicate (7 - (lg_sl ([.ref b])).length) Slot.unset).toArray = ls at hl ⊢
  have hl : lv_has ls 7 [(0, .ref b)] := hl
  refine hp_new (C := RX11) (T := TX11) (N := 12) (ci := 11) (fs := [.null, .int 0, .null, .null, .null, .null, .null, .null, .null, .null, .int 0, .int 0]) cx hw tb_wsX110 tyX11_ok rfl (show Cond.classLink RL 8 RX11 ∈ lw_tbl from mi 276 (by decide +kernel)) (by decide +kernel) (by decide +kernel) nwX11 (Nat.le_of_ble_eq_true rfl) (Nat.le_of_ble_eq_true rfl) dL_law_0 (fun xo g1 H nxo eg1 hw => ?_)
  have f1 : g1 xo = some (.inr (11, [.null, .int 0, .null, .null, .null, .null, .null, .null, .null, .null, .int 0, .int 0])) := by rw [eg1]; exact hp_up_self _ _ _
  refine lv_dup cx.1 cx.2.1 dL_law_3 rfl ?_
  refine hp_callIv (As := []) (rest := [.ref xo]) cx hw (k_House_init l (dC, dI) cA (ev_E adK adV sr1 sr2) _ g1 ev_cs ev_fm (adK 0) (adV 0) 113 (fun j => kwB.getD j 0) ev_str (by decide) (fun _ _ _ h => h.2.2.2.2.1) kwB_ok (fun _ _ _ h => h.1.1) (fun _ _ _ h => h.1.2.1) (fun _ _ _ h => h.1.2.2) xo f1) (cwI 0 cx.2.2.2.2.2.1 (fun w h => ⟨tb_wsX11_init w h, gd_wsX11_init w h⟩) rfl rfl rfl (hts (.initialized RX11) (by decide +kernel)) (hts (.methodLink RL 21 yX11_init) (by decide +kernel)) (hts (.instanceMethod yX11_init) (by decide +kernel)) rfl (by decide +kernel) ⟨Nat.le_of_ble_eq_true rfl, Nat.le_of_ble_eq_true rfl⟩) rfl hl.1 rfl (Nat.le_of_ble_eq_true rfl) dL_law_4 ⟨Nat.le_of_ble_eq_true rfl, Nat.le_of_ble_eq_true rfl⟩ (fun u1 H locs hp1 hw => ?_)
  have hfX : fr_House cA u1 xo := hp1.2
  refine lv_astore_n (lv' := [(1, .ref xo), (0, .ref b)]) cx.1 cx.2.1 dL_law_7 rfl hl (by decide) rfl (fun ls hl => ?_)
  refine hp_new (C := RX12) (T := TX12) (N := 137) (ci := 12) (fs := [.int 0, .null, .int 0, .null, .int 0, .int 0, .int 0, .int 0, .int 0, .int 0, .int 0, .int 0, .long 0, .null, .int 0, .int 0, .int 0, .null, .null, .null, .int 0, .int 0, .int 0, .null, .null, .int 0, .null, .null, .null, .null, .null, .null, .null, .null, .int 0, .int 0, .null, .null, .null, .null, .null, .null, .null, .null, .null, .null, .null, .null, .int 0, .null, .int 0, .null, .null, .null, .null, .null, .int 0, .null, .int 0, .null, .int 0, .null, .int 0, .int 0, .int 0, .int 0, .null, .null, .null, .null, .null, .null, .null, .int 0, .null, .int 0, .null, .null, .int 0, .int 0, .null, .int 0, .long 0, .null, .int 0, .int 0, .int 0, .int 0, .int 0, .int 0, .int 0, .int 0, .null, .int 0, .int 0, .int 0, .null, .null, .int 0, .null, .null, .int 0, .null, .null, .null, .int 0, .null, .null, .null, .null, .null, .null, .null, .null, .null, .null, .null, .null, .null, .null, .null, .null, .null, .null, .null, .null, .null, .int 0, .int 0, .int 0, .int 0, .null, .null, .null, .int 0, .int 0, .null]) cx hw tb_wsX120 tyX12_ok rfl (show Cond.classLink RL 22 RX12 ∈ lw_tbl from mi 2142 (by decide +kernel)) (by decide +kernel) (by decide +kernel) nwX12 (Nat.le_of_ble_eq_true rfl) (Nat.le_of_ble_eq_true rfl) dL_law_8 (fun mo g2 H nmo eg2 hw => ?_)
  refine lv_dup cx.1 cx.2.1 dL_law_11 rfl ?_
  refine hp_callFIv (g1 := hp_up hp_0 mo (.inr (12, [.int 0, .null, .int 0, .null, .int 0, .int 0, .int 0, .int 0, .int 0, .int 0, .int 0, .int 0, .long 0, .null, .int 0, .int 0, .int 0, .null, .null, .null, .int 0, .int 0, .int 0, .null, .null, .int 0, .null, .null, .null, .null, .null, .null, .null, .null, .int 0, .int 0, .null, .null, .null, .null, .null, .null, .null, .null, .null, .null, .null, .null, .int 0, .null, .int 0, .null, .null, .null, .null, .null, .int 0, .null, .int 0, .null, .int 0, .null, .int 0, .int 0, .int 0, .int 0, .null, .null, .null, .null, .null, .null, .null, .int 0, .null, .int 0, .null, .null, .int 0, .int 0, .null, .int 0, .long 0, .null, .int 0, .int 0, .int 0, .int 0, .int 0, .int 0, .int 0, .int 0, .null, .int 0, .int 0, .int 0, .null, .null, .int 0, .null, .null, .int 0, .null, .null, .null, .int 0, .null, .null, .null, .null, .null, .null, .null, .null, .null, .null, .null, .null, .null, .null, .null, .null, .null, .null, .null, .null, .null, .int 0, .int 0, .int 0, .int 0, .null, .null, .null, .int 0, .int 0, .null]))) (As := []) (rest := [.ref mo]) cx hw (sub_one eg2) (k_Model_init l (dC, dI) cA (ev_E adK adV sr1 sr2) _ _ mo (hp_up_self _ _ _)) (cwI 0 cx.2.2.2.2.2.1 (fun w h => ⟨tb_v_k_Model_init w h, gd_v_k_Model_init w h⟩) rfl rfl rfl (hts (.initialized RX12) (by decide +kernel)) (hts (.methodLink RL 24 yX12_init) (by decide +kernel)) (hts (.instanceMethod yX12_init) (by decide +kernel)) rfl (by decide +kernel) ⟨Nat.le_of_ble_eq_true rfl, Nat.le_of_ble_eq_true rfl⟩) rfl hl.1 rfl (Nat.le_of_ble_eq_true rfl) dL_law_12 ⟨Nat.le_of_ble_eq_true rfl, Nat.le_of_ble_eq_true rfl⟩ (fun uM g3 H locs hp2 hm1 hm2 hm3 hw => ?_)
  have hfM : fr_Model cA uM mo := hp2.2
  have hs1 : ∀ a e, u1 a = some e → g3 a = some e := fun a e h => hm2 a e (by rw [eg2, hp_up_ne _ _ (hp_neN h nmo)]; exact h) (one_none (hp_neN h nmo))
  have hdis : ∀ a e, uM a = some e → u1 a = none := fun a e h => by
    by_cases q : a = mo
    · rw [q]; exact nmo
    · exact hp_up_none eg2 (hm3 a e h (one_none q))
  refine lv_astore_n (lv' := [(2, .ref mo), (1, .ref xo), (0, .ref b)]) cx.1 cx.2.1 dL_law_15 rfl hl (by decide) rfl (fun ls hl => ?_)
  refine lv_iconst (v := 1) cx.1 cx.2.1 dL_law_16 (by decide) ?_
  refine hp_newa (atype := .long) (N' := 1) (a0 := (1, .inr (.inl (fun _ => 0)))) cx hw (by decide +kernel) 2 (ty := .long) rfl rfl (fun _ => rfl) (by decide) (by decide) (by decide) (Nat.le_of_ble_eq_true rfl) (Nat.le_of_ble_eq_true rfl) dL_law_17 (fun o g4 H no eg4 hw => ?_)
  have hx4 := hp_ext.new no eg4
  refine lv_astore_n (lv' := [(3, .ref o), (2, .ref mo), (1, .ref xo), (0, .ref b)]) cx.1 cx.2.1 dL_law_19 rfl hl (by decide) rfl (fun ls hl => ?_)
  refine lv_iconst (v := 0) cx.1 cx.2.1 dL_law_20 (by decide) ?_
  refine lv_istore (lv' := [(4, .int 0), (3, .ref o), (2, .ref mo), (1, .ref xo), (0, .ref b)]) cx.1 cx.2.1 dL_law_21 hl (by decide) rfl (fun ls hl => ?_)
  refine W.widen (k := 2000) (n := 800000) (Nat.le_of_ble_eq_true rfl) (Nat.le_of_ble_eq_true rfl) ?_
  refine lv_iload cx.1 cx.2.1 dL_law_23 (lv_at hl 0 rfl) ?_
  refine lv_aload_n cx.1 cx.2.1 dL_law_25 rfl (lv_at hl 4 rfl) ?_
  refine va_slen cx.1 cx.2.1 hX hbl hbA hw.2.1 dL_law_26 ?_
  refine lv_bipush (v := 6) cx.1 cx.2.1 dL_law_27 (by decide) ?_
  refine lv_isub cx.1 cx.2.1 dL_law_29 ?_
  rcases (show L = 6 ∨ L < 6 by omega) with h6 | h6
  · subst h6
    refine lv_topi (fun z ez => ?_)
    obtain rfl : z = 0 := ez.trans (by decide)
    refine lv_icmp_gt (tgt := 809) cx.1 cx.2.1 dL_law_30 (by decide) (fun ck => absurd ck (by decide)) (fun _ => ?_)
    refine lv_aload_n cx.1 cx.2.1 dL_law_33 rfl (lv_at hl 4 rfl) ?_
    refine lv_iload cx.1 cx.2.1 dL_law_34 (lv_at hl 0 rfl) ?_
    refine va_sld cx.1 cx.2.1 hX hbl hbA hw.2.1 (show vp_in (0 : Int32) 6 by unfold vp_in; decide) dL_law_36 ?_
    refine lv_bipush (v := 31) cx.1 cx.2.1 dL_law_37 (by decide) ?_
    refine lv_iand cx.1 cx.2.1 dL_law_39 ?_
    exact law_cases C0 hst rfl cx hw (fun a e h => hx4 a e (hs1 a e h)) (fun a e h => hx4 a e (hm1 a e h)) hdis hfX hfM hl (by decide) (by decide) _
  · refine lv_topi (fun z ez => ?_)
    have hz : z < 0 := by
      rw [ez]
      exact pk_sneg (a := L) (b := 6) (by decide) h6
    refine lv_icmp_gt (tgt := 809) cx.1 cx.2.1 dL_law_30 (by decide) (fun _ => ?_) (fun ck => absurd hz ck)
    refine lv_iconst (v := 1) cx.1 cx.2.1 dL_law_809 (by decide) ?_
    refine va_forget (fun q hq => hw.2.1.2.2 q hq) ?_
    refine W.widen (k := 600002) (n := 7302232) (by decide) (by decide) ?_
    exact lw_ret hx hb hr hlocks dL_law_810
