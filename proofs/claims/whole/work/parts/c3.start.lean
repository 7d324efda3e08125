theorem rcp_rc0 : ∀ r, r < 197 → rcp r = rc0 r := by decide +kernel
theorem kf_ok : ∀ i, i < 23 → (kwS (fun j => by_kw.getD j 0) 113).2.2 i = kwc i := by decide +kernel
theorem LC0 : LC (599045, 6584040) := ⟨by decide, by decide +kernel⟩
theorem Bd0 {x y : Nat} {s : cd_S} (h : ∀ r, r < 197 → RowOk s r) : Bd (x, y) s (x, y) := ⟨h, Nat.le_add_right _ _, Nat.le_add_right _ _⟩
theorem LAWS_0 {n x y : Nat} {c : cd_S} {m : md_S} (h : RLW n (x, y) c m (x, y) 0) : LAWS n (x, y) 0 c m (x, y) := ⟨0, Nat.le_refl _, h⟩
theorem LAWS0 : LAWS 60000000 (599045, 6584040) 0 (cd_s0 (kwS (fun j => by_kw.getD j 0) 113).2.2) md_s0 (599045, 6584040) := by
  refine LAWS_0 (RLW.start rfl rfl (fun i hi => kf_ok i hi) (Bd0 (fun r hr => ⟨rfl, Nat.zero_le _, 0, Nat.zero_le _, ?_⟩)) (fun l hl => rfl) rfl rfl rfl rfl rfl rfl rfl rfl rfl)
  show rcp r = rc0 r * 2 ^ 0
  rw [Nat.pow_zero, Nat.mul_one]
  exact rcp_rc0 r hr
theorem gd_wsX11_init : ∀ w ∈ wsX11_init, gdW w := gdW_of (by decide +kernel)
theorem sub_one {mo : Nat} {x : va_E} {g g2 : hp_M} (h : g2 = hp_up g mo x) : ∀ a e, hp_up hp_0 mo x a = some e → g2 a = some e := by
  intro a e ha
  by_cases q : a = mo
  · subst q
    rw [hp_up_self] at ha
    rw [h, hp_up_self]; exact ha
  · rw [hp_up_ne _ _ q] at ha
    cases ha
theorem one_none {mo a : Nat} {x : va_E} (h : a ≠ mo) : hp_up hp_0 mo x a = none := by rw [hp_up_ne _ _ h]; rfl
set_option maxHeartbeats 4000000 in
set_option maxRecDepth 100000 in
/-- THE LAW, from its entry -/
theorem whole_start {p : Program} {e : Env} {s : State} {m : MethodId} {below : List Frame} {meth : Method} {c : Code} (l : Launch) (hst : l.stackTraces = false) {b L : Nat} {xs : Nat → Int32} (hL : L ≤ 384) (C0 : lw_At p s m meth c b L xs) : W p l e room_1 s m #[Value.ref b] below meth c s.heap [] 0 0 (lw_Z below #[Value.ref b] s) (entryFrame m ([Value.ref b] : List Value).toArray 7) := by
  obtain ⟨hx, hb, hr, hml, hown, hts, hX, hbl, hlocks, hgv⟩ := id C0
  have hbA : ¬ (fun q : Nat => s.heap.size ≤ q) b := Nat.not_le.mpr hbl
  have cx : hp_C p c cL_law meth ret 7 s m #[Value.ref b] ⟨RL, meth.name, ""⟩ lw_tbl := ⟨hx, hb, hr, hml, hown, hts, hlocks, rfl⟩
  obtain ⟨dC, dI, hKc⟩ := cl_all hts
  obtain ⟨kK, kV, sK, sV, mK, mV, z, oq, hE⟩ := ev_start (A := fun q : Nat => s.heap.size ≤ q) hts hgv (fun a h q => absurd h (Nat.not_lt.mpr q))
  obtain ⟨cA, hTA⟩ := ar_all (hts (.arrayClass .byte) (by decide +kernel)) (hts (.arrayClass .int) (by decide +kernel)) (hts (.arrayClass .long) (by decide +kernel)) (hts (.arrayClass .boolean) (by decide +kernel)) hE.1.1 hE.1.2.1 hE.1.2.2
  have hw : hp_w (dC, dI) vwCl (hp_Tl cA) (ev_E kK kV sK sV mK mV z oq) (fun q => s.heap.size ≤ q) s s.heap [] hp_0 := ⟨hp_is0, va_S.rf, ⟨hKc, hTA⟩, fun _ h => h, ev_good kK kV sK sV mK mV z oq, hE⟩
  have hl := lv_entry ([.ref b]) (n := 7) (Nat.le_of_ble_eq_true rfl)
  rw [lg_entry_eq]
  generalize (lg_sl ([.ref b]) ++ List.replicate (7 - (lg_sl ([.ref b])).length) Slot.unset).toArray = ls at hl ⊢
  have hl : lv_has ls 7 [(0, .ref b)] := hl
  refine hp_new (C := RX11) (T := TX11) (N := 12) (ci := 11) (fs := [.null, .int 0, .null, .null, .null, .null, .null, .null, .null, .null, .int 0, .int 0]) cx hw tb_wsX110 tyX11_ok rfl (show Cond.classLink RL 8 RX11 ∈ lw_tbl from mi 276 (by decide +kernel)) (by decide +kernel) (by decide +kernel) nwX11 (Nat.le_of_ble_eq_true rfl) (Nat.le_of_ble_eq_true rfl) dL_law_0 (fun xo g1 H nxo eg1 hw => ?_)
  have f1 : g1 xo = some (.inr (11, [.null, .int 0, .null, .null, .null, .null, .null, .null, .null, .null, .int 0, .int 0])) := by rw [eg1]; exact hp_up_self _ _ _
  refine lv_dup cx.1 cx.2.1 dL_law_3 rfl ?_
  refine hp_callIv (As := []) (rest := [.ref xo]) cx hw (k2_House_init l (dC, dI) cA (ev_E kK kV sK sV mK mV z oq) _ g1 ev_cs ev_fm (kK 0) (kV 0) 113 (fun j => by_kw.getD j 0) ev_str (by decide) (fun _ _ _ h => h.2.2.2.2.2.1) kw_ok (fun _ _ _ h => h.1.1) (fun _ _ _ h => h.1.2.1) (fun _ _ _ h => h.1.2.2) xo f1) (cwI 0 cx.2.2.2.2.2.1 (fun w h => ⟨tb_wsX11_init w h, gd_wsX11_init w h⟩) rfl rfl rfl (hts (.initialized RX11) (by decide +kernel)) (hts (.methodLink RL 21 yX11_init) (by decide +kernel)) (hts (.instanceMethod yX11_init) (by decide +kernel)) rfl (by decide +kernel) ⟨Nat.le_of_ble_eq_true rfl, Nat.le_of_ble_eq_true rfl⟩) rfl hl.1 rfl (Nat.le_of_ble_eq_true rfl) dL_law_4 ⟨Nat.le_of_ble_eq_true rfl, Nat.le_of_ble_eq_true rfl⟩ (fun u1 H locs hp1 hw => ?_)
  obtain ⟨a, P0, P1, P2, P3, P4, hc1⟩ := hp1
  obtain ⟨ad, ca, had, hinj, hcl, -⟩ := cd_first (kf := (kwS (fun j => by_kw.getD j 0) 113).2.2) hc1
  refine lv_astore_n (lv' := [(1, .ref xo), (0, .ref b)]) cx.1 cx.2.1 dL_law_7 rfl hl (by decide) rfl (fun ls hl => ?_)
  refine hp_new (C := RX12) (T := TX12) (N := 137) (ci := 12) (fs := [.int 0, .null, .int 0, .null, .int 0, .int 0, .int 0, .int 0, .int 0, .int 0, .int 0, .int 0, .long 0, .null, .int 0, .int 0, .int 0, .null, .null, .null, .int 0, .int 0, .int 0, .null, .null, .int 0, .null, .null, .null, .null, .null, .null, .null, .null, .int 0, .int 0, .null, .null, .null, .null, .null, .null, .null, .null, .null, .null, .null, .null, .int 0, .null, .int 0, .null, .null, .null, .null, .null, .int 0, .null, .int 0, .null, .int 0, .null, .int 0, .int 0, .int 0, .int 0, .null, .null, .null, .null, .null, .null, .null, .int 0, .null, .int 0, .null, .null, .int 0, .int 0, .null, .int 0, .long 0, .null, .int 0, .int 0, .int 0, .int 0, .int 0, .int 0, .int 0, .int 0, .null, .int 0, .int 0, .int 0, .null, .null, .int 0, .null, .null, .int 0, .null, .null, .null, .int 0, .null, .null, .null, .null, .null, .null, .null, .null, .null, .null, .null, .null, .null, .null, .null, .null, .null, .null, .null, .null, .null, .int 0, .int 0, .int 0, .int 0, .null, .null, .null, .int 0, .int 0, .null]) cx hw tb_wsX120 tyX12_ok rfl (show Cond.classLink RL 22 RX12 ∈ lw_tbl from mi 2142 (by decide +kernel)) (by decide +kernel) (by decide +kernel) nwX12 (Nat.le_of_ble_eq_true rfl) (Nat.le_of_ble_eq_true rfl) dL_law_8 (fun mo g2 H nmo eg2 hw => ?_)
  refine lv_dup cx.1 cx.2.1 dL_law_11 rfl ?_
  refine hp_callFIv (g1 := hp_up hp_0 mo (.inr (12, [.int 0, .null, .int 0, .null, .int 0, .int 0, .int 0, .int 0, .int 0, .int 0, .int 0, .int 0, .long 0, .null, .int 0, .int 0, .int 0, .null, .null, .null, .int 0, .int 0, .int 0, .null, .null, .int 0, .null, .null, .null, .null, .null, .null, .null, .null, .int 0, .int 0, .null, .null, .null, .null, .null, .null, .null, .null, .null, .null, .null, .null, .int 0, .null, .int 0, .null, .null, .null, .null, .null, .int 0, .null, .int 0, .null, .int 0, .null, .int 0, .int 0, .int 0, .int 0, .null, .null, .null, .null, .null, .null, .null, .int 0, .null, .int 0, .null, .null, .int 0, .int 0, .null, .int 0, .long 0, .null, .int 0, .int 0, .int 0, .int 0, .int 0, .int 0, .int 0, .int 0, .null, .int 0, .int 0, .int 0, .null, .null, .int 0, .null, .null, .int 0, .null, .null, .null, .int 0, .null, .null, .null, .null, .null, .null, .null, .null, .null, .null, .null, .null, .null, .null, .null, .null, .null, .null, .null, .null, .null, .int 0, .int 0, .int 0, .int 0, .null, .null, .null, .int 0, .int 0, .null]))) (As := []) (rest := [.ref mo]) cx hw (sub_one eg2) (k2_Model_init l (dC, dI) cA (ev_E kK kV sK sV mK mV z oq) _ _ mo (hp_up_self _ _ _)) (cwI 0 cx.2.2.2.2.2.1 (fun w h => ⟨tb_v_k2_Model_init w h, gd_v_k2_Model_init w h⟩) rfl rfl rfl (hts (.initialized RX12) (by decide +kernel)) (hts (.methodLink RL 24 yX12_init) (by decide +kernel)) (hts (.instanceMethod yX12_init) (by decide +kernel)) rfl (by decide +kernel) ⟨Nat.le_of_ble_eq_true rfl, Nat.le_of_ble_eq_true rfl⟩) rfl hl.1 rfl (Nat.le_of_ble_eq_true rfl) dL_law_12 ⟨Nat.le_of_ble_eq_true rfl, Nat.le_of_ble_eq_true rfl⟩ (fun uM g3 H locs hp2 hm1 hm2 hm3 hw => ?_)
  obtain ⟨am, ham, hjm, hmo, hma, -, -⟩ := md_first hp2
  have hs1 : ∀ a e, u1 a = some e → g3 a = some e := fun a e h => hm2 a e (by rw [eg2, hp_up_ne _ _ (hp_neN h nmo)]; exact h) (one_none (hp_neN h nmo))
  have hdis : ∀ a e, uM a = some e → u1 a = none := fun a e h => by
    by_cases q : a = mo
    · rw [q]; exact nmo
    · exact hp_up_none eg2 (hm3 a e h (one_none q))
  refine lv_astore_n (lv' := [(2, .ref mo), (1, .ref xo), (0, .ref b)]) cx.1 cx.2.1 dL_law_15 rfl hl (by decide) rfl (fun ls hl => ?_)
  refine lv_iconst (v := 1) cx.1 cx.2.1 dL_law_16 (by decide) ?_
  refine hp_newa (atype := .long) (N' := 1) (a0 := (1, .inr (.inl (fun _ => 0)))) cx hw (by decide +kernel) 2 (ty := .long) rfl rfl (fun _ => rfl) (by decide) (by decide) (by decide) (Nat.le_of_ble_eq_true rfl) (Nat.le_of_ble_eq_true rfl) dL_law_17 (fun o g4 H no eg4 hw => ?_)
  have hx4 := hp_ext.new no eg4
  refine lv_astore_n (lv' := [(3, .ref o), (2, .ref mo), (1, .ref xo), (0, .ref b)]) cx.1 cx.2.1 dL_law_19 rfl hl (by decide) rfl (fun ls hl => ?_)
  refine lv_iconst (v := 0) cx.1 cx.2.1 dL_law_20 (by decide) ?_
  refine lv_istore (lv' := [(4, .int 0), (3, .ref o), (2, .ref mo), (1, .ref xo), (0, .ref b)]) cx.1 cx.2.1 dL_law_21 hl (by decide) rfl (fun ls hl => ?_)
  refine W.widen (k := 1083) (n := 717057) (Nat.le_of_ble_eq_true rfl) (Nat.le_of_ble_eq_true rfl) ?_
  have hc0 : ∀ q e, cd_pic cA ad ca (cd_s0 (kwS (fun j => by_kw.getD j 0) 113).2.2) q = some e → u1 q = some e := fun q e h => cd_pic0 hcl h
  have hm0 : ∀ q e, md_pic cA am md_s0 q = some e → uM q = some e := fun q e h => md_pic0 (by rw [ham]; exact hmo) hma h
  have hJ : lw_J cA ad am o ca (cd_s0 (kwS (fun j => by_kw.getD j 0) 113).2.2) md_s0 (fun _ => 0) g4 := by
    refine ⟨hinj, fun q e h => hx4 q e (hs1 q e (hc0 q e h)), fun q e h => hx4 q e (hm1 q e (hm0 q e h)), fun q e h => ?_, by rw [eg4]; exact hp_up_self _ _ _, ?_, ?_⟩
    · cases r : cd_pic cA ad ca (cd_s0 (kwS (fun j => by_kw.getD j 0) 113).2.2) q with
      | none => rfl
      | some x =>
        have h1 := hc0 q x r
        rw [hdis q e (hm0 q e h)] at h1
        cases h1
    · cases r : cd_pic cA ad ca (cd_s0 (kwS (fun j => by_kw.getD j 0) 113).2.2) o with
      | none => rfl
      | some x =>
        have h1 := hs1 o x (hc0 o x r)
        rw [no] at h1
        cases h1
    · cases r : md_pic cA am md_s0 o with
      | none => rfl
      | some x =>
        have h1 := hm1 o x (hm0 o x r)
        rw [no] at h1
        cases h1
  rw [← had, ← ham] at hl
  exact law_loop C0 hL ev_cd ev_md (ev_X hst) (ev_Y hst) ev_nc hjm LC0 (Nat.le_refl 60000000) cx 64 0 g4 H locs ls 1083 717057 (599045, 6584040) (by omega) (by omega) hw ⟨ca, _, _, _, LAWS0, hJ⟩ hl (by decide) (by decide)
