set_option maxHeartbeats 4000000 in
set_option maxRecDepth 100000 in
theorem km_X12_setLocal (l : Launch) (D : va_G) (cA : Nat → ClassId) (E : hp_N) (sz : Nat) (ad : Nat → Nat) (hj : md_inj ad) (hE : md_E E) (n : Nat) (σ0 : md_S) (a1 : Int32) (a2 : Int32) (a3 : Int32) (a4 : Int32) (a5 : Int32) (p : (Int32 × md_S)) (h : f_X12_setLocal n σ0 a1 a2 a3 a4 a5 = some p) : Met l yX12_setLocal (Cond.code yX12_setLocal cX12_setLocal 6 none :: v_MOD) ({ frames := 0, cells := 0, slots := 0, locals := 0 }) (hp_Pc D vwCl (hp_Tl cA) E sz (md_pic cA ad σ0) [.ref (ad 137), .int a1, .int a2, .int a3, .int a4, .int a5]) (hp_Qv D vwCl (hp_Tl cA) sz (md_pic cA ad σ0) (fun u => u = md_pic cA ad p.2)) 0 0 (hp_A (md_pic cA ad σ0) sz) := by
  refine hp_ofW (cc := cX12_setLocal) (maxL := 6) (ret := none) (by decide) rfl (Nat.le_of_ble_eq_true rfl) ?_
  intro pp ee ss mm bb mt cd ls cx hsz hw hl
  have hl : lv_has ls 6 [(0, .ref (ad 137)), (1, .int a1), (2, .int a2), (3, .int a3), (4, .int a4), (5, .int a5)] := hl
  refine lv_aload_n cx.1 cx.2.1 dX12_setLocal_0 rfl (lv_at hl 0 rfl) ?_
  refine md_gR (k := 118) cx hw hin12c (by decide) (by decide) (List.mem_cons_of_mem _ mm_570) dX12_setLocal_1 ?_
  refine lv_sipush (v := 12600) cx.1 cx.2.1 dX12_setLocal_4 (by decide) ?_
  refine lv_iload_n cx.1 cx.2.1 dX12_setLocal_7 rfl (lv_at hl 1 rfl) ?_
  refine lv_imul cx.1 cx.2.1 dX12_setLocal_8 ?_
  refine lv_aload_n cx.1 cx.2.1 dX12_setLocal_9 rfl (lv_at hl 0 rfl) ?_
  refine md_gR (k := 114) cx hw hin12c (by decide) (by decide) (List.mem_cons_of_mem _ mm_550) dX12_setLocal_10 ?_
  refine lv_iload_n cx.1 cx.2.1 dX12_setLocal_13 rfl (lv_at hl 2 rfl) ?_
  obtain ⟨v1, e_v1, h⟩ := md_ob h
  refine md_lI (k := 114) hj cx hw (by decide) rfl rfl rfl e_v1 dX12_setLocal_14 ?_
  refine lv_iadd cx.1 cx.2.1 dX12_setLocal_15 ?_
  refine lv_iload_n cx.1 cx.2.1 dX12_setLocal_16 rfl (lv_at hl 3 rfl) ?_
  refine lv_iadd cx.1 cx.2.1 dX12_setLocal_17 ?_
  refine lv_iload cx.1 cx.2.1 dX12_setLocal_18 (lv_at hl 4 rfl) ?_
  obtain ⟨σ2, e_σ2, h⟩ := md_ob h
  refine md_sI (k := 118) hj cx hw (by decide) rfl rfl rfl e_σ2 dX12_setLocal_20 (fun H locs hw => ?_)
  refine lv_aload_n cx.1 cx.2.1 dX12_setLocal_21 rfl (lv_at hl 0 rfl) ?_
  refine md_gR (k := 119) cx hw hin12c (by decide) (by decide) (List.mem_cons_of_mem _ mm_571) dX12_setLocal_22 ?_
  refine lv_sipush (v := 12600) cx.1 cx.2.1 dX12_setLocal_25 (by decide) ?_
  refine lv_iload_n cx.1 cx.2.1 dX12_setLocal_28 rfl (lv_at hl 1 rfl) ?_
  refine lv_imul cx.1 cx.2.1 dX12_setLocal_29 ?_
  refine lv_aload_n cx.1 cx.2.1 dX12_setLocal_30 rfl (lv_at hl 0 rfl) ?_
  refine md_gR (k := 114) cx hw hin12c (by decide) (by decide) (List.mem_cons_of_mem _ mm_550) dX12_setLocal_31 ?_
  refine lv_iload_n cx.1 cx.2.1 dX12_setLocal_34 rfl (lv_at hl 2 rfl) ?_
  obtain ⟨v3, e_v3, h⟩ := md_ob h
  refine md_lI (k := 114) hj cx hw (by decide) rfl rfl rfl e_v3 dX12_setLocal_35 ?_
  refine lv_iadd cx.1 cx.2.1 dX12_setLocal_36 ?_
  refine lv_iload_n cx.1 cx.2.1 dX12_setLocal_37 rfl (lv_at hl 3 rfl) ?_
  refine lv_iadd cx.1 cx.2.1 dX12_setLocal_38 ?_
  refine lv_iload cx.1 cx.2.1 dX12_setLocal_39 (lv_at hl 5 rfl) ?_
  obtain ⟨σ4, e_σ4, h⟩ := md_ob h
  refine md_sI (k := 119) hj cx hw (by decide) rfl rfl rfl e_σ4 dX12_setLocal_41 (fun H locs hw => ?_)
  exact hp_vret cx hw (md_retv h) dX12_setLocal_42
set_option maxHeartbeats 4000000 in
set_option maxRecDepth 100000 in
theorem km_X12_begin (l : Launch) (D : va_G) (cA : Nat → ClassId) (E : hp_N) (sz : Nat) (ad : Nat → Nat) (hj : md_inj ad) (hE : md_E E) (n : Nat) (σ0 : md_S) (a1 : Int32) (a2 : Int32) (a3 : Int32) (p : (Int32 × md_S)) (h : f_X12_begin n σ0 a1 a2 a3 = some p) : Met l yX12_begin (Cond.code yX12_begin cX12_begin 10 (some .boolean) :: v_MOD) ({ frames := 2, cells := 0, slots := 0, locals := 49 }) (hp_Pc D vwCl (hp_Tl cA) E sz (md_pic cA ad σ0) [.ref (ad 137), .int a1, .int a2, .int a3]) (hp_Qi D vwCl (hp_Tl cA) sz (md_pic cA ad σ0) (fun r u => r = p.1 ∧ u = md_pic cA ad p.2)) 0 0 (hp_A (md_pic cA ad σ0) sz) := by
  refine hp_ofW (cc := cX12_begin) (maxL := 10) (ret := (some .boolean)) (by decide) rfl (Nat.le_of_ble_eq_true rfl) ?_
  intro pp ee ss mm bb mt cd ls cx hsz hw hl
  have hl : lv_has ls 10 [(0, .ref (ad 137)), (1, .int a1), (2, .int a2), (3, .int a3)] := hl
  have J266 : ∀ (σ : md_S) (l1 : Int32) (l2 : Int32) (l4 : Int32) (l7 : Int32) (l8 : Int32) (t0 : Int32) (H : Heap) (locs : List Loc) (ls : Array Slot), f_X12_begin_J266 n σ l1 l2 l4 l7 l8 t0 = some p → hp_w D vwCl (hp_Tl cA) E (hp_A (md_pic cA ad σ0) sz) ss H locs (md_pic cA ad σ) → lv_has ls 10 [(0, .ref (ad 137)), (1, .int l1), (2, .int l2), (4, .int l4), (7, .int l7), (8, .int l8)] → W pp l ee ({ frames := 2, cells := 0, slots := 0, locals := 49 }) ss mm [.ref (ad 137), .int a1, .int a2, .int a3].toArray bb mt cd H locs 0 0 (MQ bb (hp_Qi D vwCl (hp_Tl cA) sz (md_pic cA ad σ0) (fun r u => r = p.1 ∧ u = md_pic cA ad p.2)) [.ref (ad 137), .int a1, .int a2, .int a3].toArray ss 0 0 (hp_A (md_pic cA ad σ0) sz)) (F0 mm 266 ls [.int t0, .ref (ad 137)]) := by
    intro σ l1 l2 l4 l7 l8 t0 H locs ls h hw hl
    obtain ⟨σ1, e_σ1, h⟩ := md_ob h
    refine md_pI (k := 93) cx hw hin12c rfl (by decide) rfl (List.mem_cons_of_mem _ mm_588) rfl e_σ1 dX12_begin_266 (fun H locs hw => ?_)
    refine lv_aload_n cx.1 cx.2.1 dX12_begin_269 rfl (lv_at hl 0 rfl) ?_
    refine md_gR (k := 112) cx hw hin12c (by decide) (by decide) (List.mem_cons_of_mem _ mm_555) dX12_begin_270 ?_
    refine lv_iload cx.1 cx.2.1 dX12_begin_273 (lv_at hl 5 rfl) ?_
    refine lv_iload_n cx.1 cx.2.1 dX12_begin_275 rfl (lv_at hl 2 rfl) ?_
    obtain ⟨σ2, e_σ2, h⟩ := md_ob h
    refine md_sI (k := 112) hj cx hw (by decide) rfl rfl rfl e_σ2 dX12_begin_276 (fun H locs hw => ?_)
    refine lv_aload_n cx.1 cx.2.1 dX12_begin_277 rfl (lv_at hl 0 rfl) ?_
    refine md_gR (k := 113) cx hw hin12c (by decide) (by decide) (List.mem_cons_of_mem _ mm_556) dX12_begin_278 ?_
    refine lv_iload cx.1 cx.2.1 dX12_begin_281 (lv_at hl 5 rfl) ?_
    refine lv_aload_n cx.1 cx.2.1 dX12_begin_283 rfl (lv_at hl 0 rfl) ?_
    refine md_gR (k := 76) cx hw hin12c (by decide) (by decide) (List.mem_cons_of_mem _ mm_415) dX12_begin_284 ?_
    refine lv_iconst (v := 2) cx.1 cx.2.1 dX12_begin_287 (by decide) ?_
    refine lv_iload_n cx.1 cx.2.1 dX12_begin_288 rfl (lv_at hl 2 rfl) ?_
    refine lv_imul cx.1 cx.2.1 dX12_begin_289 ?_
    obtain ⟨v3, e_v3, h⟩ := md_ob h
    refine md_lI (k := 76) hj cx hw (by decide) rfl rfl rfl e_v3 dX12_begin_290 ?_
    obtain ⟨σ4, e_σ4, h⟩ := md_ob h
    refine md_sI (k := 113) hj cx hw (by decide) rfl rfl rfl e_σ4 dX12_begin_291 (fun H locs hw => ?_)
    refine lv_aload_n cx.1 cx.2.1 dX12_begin_292 rfl (lv_at hl 0 rfl) ?_
    refine md_gR (k := 114) cx hw hin12c (by decide) (by decide) (List.mem_cons_of_mem _ mm_550) dX12_begin_293 ?_
    refine lv_iload cx.1 cx.2.1 dX12_begin_296 (lv_at hl 5 rfl) ?_
    refine lv_aload_n cx.1 cx.2.1 dX12_begin_298 rfl (lv_at hl 0 rfl) ?_
    refine md_gR (k := 117) cx hw hin12c (by decide) (by decide) (List.mem_cons_of_mem _ mm_549) dX12_begin_299 ?_
    refine lv_iload_n cx.1 cx.2.1 dX12_begin_302 rfl (lv_at hl 1 rfl) ?_
    obtain ⟨v5, e_v5, h⟩ := md_ob h
    refine md_lI (k := 117) hj cx hw (by decide) rfl rfl rfl e_v5 dX12_begin_303 ?_
    obtain ⟨σ6, e_σ6, h⟩ := md_ob h
    refine md_sI (k := 114) hj cx hw (by decide) rfl rfl rfl e_σ6 dX12_begin_304 (fun H locs hw => ?_)
    refine lv_aload_n cx.1 cx.2.1 dX12_begin_305 rfl (lv_at hl 0 rfl) ?_
    refine md_gR (k := 115) cx hw hin12c (by decide) (by decide) (List.mem_cons_of_mem _ mm_580) dX12_begin_306 ?_
    refine lv_iload cx.1 cx.2.1 dX12_begin_309 (lv_at hl 5 rfl) ?_
    refine lv_iload cx.1 cx.2.1 dX12_begin_311 (lv_at hl 3 rfl) ?_
    obtain ⟨σ7, e_σ7, h⟩ := md_ob h
    refine md_sI (k := 115) hj cx hw (by decide) rfl rfl rfl e_σ7 dX12_begin_313 (fun H locs hw => ?_)
    refine lv_aload_n cx.1 cx.2.1 dX12_begin_314 rfl (lv_at hl 0 rfl) ?_
    refine md_gR (k := 116) cx hw hin12c (by decide) (by decide) (List.mem_cons_of_mem _ mm_581) dX12_begin_315 ?_
    refine lv_iload cx.1 cx.2.1 dX12_begin_318 (lv_at hl 5 rfl) ?_
    refine lv_iload cx.1 cx.2.1 dX12_begin_320 (lv_at hl 4 rfl) ?_
    obtain ⟨σ8, e_σ8, h⟩ := md_ob h
    refine md_sI (k := 116) hj cx hw (by decide) rfl rfl rfl e_σ8 dX12_begin_322 (fun H locs hw => ?_)
    refine lv_iconst (v := 0) cx.1 cx.2.1 dX12_begin_323 (by decide) ?_
    refine lv_istore (lv' := [(9, .int 0), (0, .ref (ad 137)), (1, .int l1), (2, .int l2), (4, .int l4), (7, .int l7), (8, .int l8)]) cx.1 cx.2.1 dX12_begin_324 hl (by decide) rfl (fun ls hl => ?_)
    have L326 : ∀ (j : Nat) (σ : md_S) (l1 : Int32) (l2 : Int32) (l8 : Int32) (l9 : Int32) (q : (md_S × Int32)) (H : Heap) (locs : List Loc) (ls : Array Slot), f_X12_begin_L326 n l1 l2 l8 j σ l9 = some q → hp_w D vwCl (hp_Tl cA) E (hp_A (md_pic cA ad σ0) sz) ss H locs (md_pic cA ad σ) → lv_has ls 10 [(0, .ref (ad 137)), (1, .int l1), (2, .int l2), (8, .int l8), (9, .int l9)] → (∀ (H : Heap) (locs : List Loc) (ls : Array Slot), hp_w D vwCl (hp_Tl cA) E (hp_A (md_pic cA ad σ0) sz) ss H locs (md_pic cA ad q.1) → lv_has ls 10 [(0, .ref (ad 137)), (1, .int l1), (2, .int l2)] → W pp l ee ({ frames := 2, cells := 0, slots := 0, locals := 49 }) ss mm [.ref (ad 137), .int a1, .int a2, .int a3].toArray bb mt cd H locs 0 0 (MQ bb (hp_Qi D vwCl (hp_Tl cA) sz (md_pic cA ad σ0) (fun r u => r = p.1 ∧ u = md_pic cA ad p.2)) [.ref (ad 137), .int a1, .int a2, .int a3].toArray ss 0 0 (hp_A (md_pic cA ad σ0) sz)) (F0 mm 353 ls [])) → W pp l ee ({ frames := 2, cells := 0, slots := 0, locals := 49 }) ss mm [.ref (ad 137), .int a1, .int a2, .int a3].toArray bb mt cd H locs 0 0 (MQ bb (hp_Qi D vwCl (hp_Tl cA) sz (md_pic cA ad σ0) (fun r u => r = p.1 ∧ u = md_pic cA ad p.2)) [.ref (ad 137), .int a1, .int a2, .int a3].toArray ss 0 0 (hp_A (md_pic cA ad σ0) sz)) (F0 mm 326 ls []) := by
      intro j
      induction j with
      | zero => intro σ l1 l2 l8 l9 q H locs ls h; exact nomatch h
      | succ j ih =>
        intro σ l1 l2 l8 l9 q H locs ls h hw hl K
        refine lv_iload cx.1 cx.2.1 dX12_begin_326 (lv_at hl 4 rfl) ?_
        refine lv_aload_n cx.1 cx.2.1 dX12_begin_328 rfl (lv_at hl 0 rfl) ?_
        refine lv_iload_n cx.1 cx.2.1 dX12_begin_329 rfl (lv_at hl 2 rfl) ?_
        obtain ⟨p9, e_p9, h⟩ := md_ob h
        refine hp_callVi (As := [.int l2]) (rest := [.int l9]) cx hw (km_X12_localsOf l D cA E _ ad hj hE n σ l2 p9 e_p9) (cwV 1 cx.2.2.2.2.2.1 (md_giV mm_411 mm_412 mm_413 mm_5 mm_414) rfl rfl rfl hd_X12_localsOf ⟨Nat.le_of_ble_eq_true rfl, Nat.le_of_ble_eq_true rfl⟩) md_at0 rfl rfl hl.1 rfl (Nat.le_of_ble_eq_true rfl) dX12_begin_330 ⟨Nat.le_refl _, Nat.le_refl _⟩ (fun r u H locs hp hw => ?_)
        obtain ⟨rfl, rfl⟩ := hp
        refine lv_icmp_ge (tgt := 353) cx.1 cx.2.1 dX12_begin_333 (by decide) (fun c333 => ?_) (fun c333 => ?_)
        · have h := md_ip c333 h
          obtain rfl := Option.some.inj h
          exact K _ _ _ hw (lv_sub hl [0, 1, 2] rfl)
        · have h := md_in c333 h
          refine lv_aload_n cx.1 cx.2.1 dX12_begin_336 rfl (lv_at hl 0 rfl) ?_
          refine lv_iload_n cx.1 cx.2.1 dX12_begin_337 rfl (lv_at hl 1 rfl) ?_
          refine lv_iload cx.1 cx.2.1 dX12_begin_338 (lv_at hl 3 rfl) ?_
          refine lv_iload cx.1 cx.2.1 dX12_begin_340 (lv_at hl 4 rfl) ?_
          refine lv_iconst (v := 1) cx.1 cx.2.1 dX12_begin_342 (by decide) ?_
          refine lv_iconst (v := 0) cx.1 cx.2.1 dX12_begin_343 (by decide) ?_
          obtain ⟨p10, e_p10, h⟩ := md_ob h
          refine hp_callVv (As := [.int l1, .int l8, .int l9, .int 1, .int 0]) (rest := []) cx hw (km_X12_setLocal l D cA E _ ad hj hE n p9.2 l1 l8 l9 (1 : Int32) (0 : Int32) p10 e_p10) (cwV 5 cx.2.2.2.2.2.1 (md_giV mm_589 mm_590 mm_591 mm_5 mm_592) rfl rfl rfl hd_X12_setLocal ⟨Nat.le_of_ble_eq_true rfl, Nat.le_of_ble_eq_true rfl⟩) md_at0 rfl rfl hl.1 rfl (Nat.le_of_ble_eq_true rfl) dX12_begin_344 ⟨Nat.le_refl _, Nat.le_refl _⟩ (fun u H locs hp hw => ?_)
          obtain rfl := hp
          refine lv_iinc (v := (l9 + 1)) (lv' := [(9, .int (l9 + 1)), (0, .ref (ad 137)), (1, .int l1), (2, .int l2), (8, .int l8)]) cx.1 cx.2.1 dX12_begin_347 hl (k := 4) rfl rfl (by decide) rfl (fun ls hl => ?_)
          refine lv_goto (tgt := 326) cx.1 cx.2.1 dX12_begin_350 (by decide) ?_
          exact ih p10.2 l1 l2 l8 ((l9 + 1)) q _ _ _ h hw (lv_sub hl [1, 2, 3, 4, 0] rfl) K
    obtain ⟨q11, e_q11, h⟩ := md_ob h
    refine L326 n σ8 l1 l2 l8 0 q11 _ _ _ e_q11 hw (lv_sub hl [1, 2, 3, 6, 0] rfl) (fun H locs ls hw hl => ?_)
    refine lv_aload_n cx.1 cx.2.1 dX12_begin_353 rfl (lv_at hl 0 rfl) ?_
    refine md_gR (k := 117) cx hw hin12c (by decide) (by decide) (List.mem_cons_of_mem _ mm_549) dX12_begin_354 ?_
    refine lv_iload_n cx.1 cx.2.1 dX12_begin_357 rfl (lv_at hl 1 rfl) ?_
    refine lv_dup2_11 cx.1 cx.2.1 dX12_begin_358 rfl rfl ?_
    obtain ⟨v12, e_v12, h⟩ := md_ob h
    refine md_lI (k := 117) hj cx hw (by decide) rfl rfl rfl e_v12 dX12_begin_359 ?_
    refine lv_aload_n cx.1 cx.2.1 dX12_begin_360 rfl (lv_at hl 0 rfl) ?_
    refine lv_iload_n cx.1 cx.2.1 dX12_begin_361 rfl (lv_at hl 2 rfl) ?_
    obtain ⟨p13, e_p13, h⟩ := md_ob h
    refine hp_callVi (As := [.int l2]) (rest := [.int v12, .int l1, .ref (ad 117)]) cx hw (km_X12_localsOf l D cA E _ ad hj hE n q11.1 l2 p13 e_p13) (cwV 1 cx.2.2.2.2.2.1 (md_giV mm_411 mm_412 mm_413 mm_5 mm_414) rfl rfl rfl hd_X12_localsOf ⟨Nat.le_of_ble_eq_true rfl, Nat.le_of_ble_eq_true rfl⟩) md_at0 rfl rfl hl.1 rfl (Nat.le_of_ble_eq_true rfl) dX12_begin_362 ⟨Nat.le_refl _, Nat.le_refl _⟩ (fun r u H locs hp hw => ?_)
    obtain ⟨rfl, rfl⟩ := hp
    refine lv_iadd cx.1 cx.2.1 dX12_begin_365 ?_
    obtain ⟨σ14, e_σ14, h⟩ := md_ob h
    refine md_sI (k := 117) hj cx hw (by decide) rfl rfl rfl e_σ14 dX12_begin_366 (fun H locs hw => ?_)
    refine lv_iconst (v := 1) cx.1 cx.2.1 dX12_begin_367 (by decide) ?_
    exact hp_zret cx hw (md_ret h) (by decide) dX12_begin_368
  have J204 : ∀ (σ : md_S) (l1 : Int32) (l2 : Int32) (l4 : Int32) (t0 : Int32) (H : Heap) (locs : List Loc) (ls : Array Slot), f_X12_begin_J204 n σ l1 l2 l4 t0 = some p → hp_w D vwCl (hp_Tl cA) E (hp_A (md_pic cA ad σ0) sz) ss H locs (md_pic cA ad σ) → lv_has ls 10 [(0, .ref (ad 137)), (1, .int l1), (2, .int l2), (4, .int l4)] → W pp l ee ({ frames := 2, cells := 0, slots := 0, locals := 49 }) ss mm [.ref (ad 137), .int a1, .int a2, .int a3].toArray bb mt cd H locs 0 0 (MQ bb (hp_Qi D vwCl (hp_Tl cA) sz (md_pic cA ad σ0) (fun r u => r = p.1 ∧ u = md_pic cA ad p.2)) [.ref (ad 137), .int a1, .int a2, .int a3].toArray ss 0 0 (hp_A (md_pic cA ad σ0) sz)) (F0 mm 204 ls [.int t0]) := by
    intro σ l1 l2 l4 t0 H locs ls h hw hl
    refine lv_istore (lv' := [(7, .int t0), (0, .ref (ad 137)), (1, .int l1), (2, .int l2), (4, .int l4)]) cx.1 cx.2.1 dX12_begin_204 hl (by decide) rfl (fun ls hl => ?_)
    refine lv_bipush (v := 60) cx.1 cx.2.1 dX12_begin_206 (by decide) ?_
    refine lv_iload_n cx.1 cx.2.1 dX12_begin_208 rfl (lv_at hl 2 rfl) ?_
    refine lv_imul cx.1 cx.2.1 dX12_begin_209 ?_
    refine lv_aload_n cx.1 cx.2.1 dX12_begin_210 rfl (lv_at hl 1 rfl) ?_
    refine md_gR (k := 111) cx hw hin12c (by decide) (by decide) (List.mem_cons_of_mem _ mm_539) dX12_begin_211 ?_
    refine lv_iload_n cx.1 cx.2.1 dX12_begin_214 rfl (lv_at hl 2 rfl) ?_
    obtain ⟨v15, e_v15, h⟩ := md_ob h
    refine md_lI (k := 111) hj cx hw (by decide) rfl rfl rfl e_v15 dX12_begin_215 ?_
    refine lv_iadd cx.1 cx.2.1 dX12_begin_216 ?_
    refine lv_istore (lv' := [(8, .int (((60 : Int32) * l1) + v15)), (7, .int t0), (0, .ref (ad 137)), (1, .int l1), (2, .int l2), (4, .int l4)]) cx.1 cx.2.1 dX12_begin_217 hl (by decide) rfl (fun ls hl => ?_)
    refine lv_aload_n cx.1 cx.2.1 dX12_begin_219 rfl (lv_at hl 2 rfl) ?_
    refine md_gR (k := 111) cx hw hin12c (by decide) (by decide) (List.mem_cons_of_mem _ mm_539) dX12_begin_220 ?_
    refine lv_iload_n cx.1 cx.2.1 dX12_begin_223 rfl (lv_at hl 3 rfl) ?_
    refine lv_dup2_11 cx.1 cx.2.1 dX12_begin_224 rfl rfl ?_
    obtain ⟨v16, e_v16, h⟩ := md_ob h
    refine md_lI (k := 111) hj cx hw (by decide) rfl rfl rfl e_v16 dX12_begin_225 ?_
    refine lv_iconst (v := 1) cx.1 cx.2.1 dX12_begin_226 (by decide) ?_
    refine lv_iadd cx.1 cx.2.1 dX12_begin_227 ?_
    obtain ⟨σ17, e_σ17, h⟩ := md_ob h
    refine md_sI (k := 111) hj cx hw (by decide) rfl rfl rfl e_σ17 dX12_begin_228 (fun H locs hw => ?_)
    refine lv_aload_n cx.1 cx.2.1 dX12_begin_229 rfl (lv_at hl 2 rfl) ?_
    refine md_gR (k := 108) cx hw hin12c (by decide) (by decide) (List.mem_cons_of_mem _ mm_587) dX12_begin_230 ?_
    refine lv_iload_n cx.1 cx.2.1 dX12_begin_233 rfl (lv_at hl 3 rfl) ?_
    refine lv_dup2_11 cx.1 cx.2.1 dX12_begin_234 rfl rfl ?_
    obtain ⟨v18, e_v18, h⟩ := md_ob h
    refine md_lI (k := 108) hj cx hw (by decide) rfl rfl rfl e_v18 dX12_begin_235 ?_
    refine lv_iconst (v := 1) cx.1 cx.2.1 dX12_begin_236 (by decide) ?_
    refine lv_iadd cx.1 cx.2.1 dX12_begin_237 ?_
    obtain ⟨σ19, e_σ19, h⟩ := md_ob h
    refine md_sI (k := 108) hj cx hw (by decide) rfl rfl rfl e_σ19 dX12_begin_238 (fun H locs hw => ?_)
    refine lv_aload_n cx.1 cx.2.1 dX12_begin_239 rfl (lv_at hl 2 rfl) ?_
    refine lv_aload_n cx.1 cx.2.1 dX12_begin_240 rfl (lv_at hl 2 rfl) ?_
    refine md_gR (k := 111) cx hw hin12c (by decide) (by decide) (List.mem_cons_of_mem _ mm_539) dX12_begin_241 ?_
    refine lv_iload_n cx.1 cx.2.1 dX12_begin_244 rfl (lv_at hl 3 rfl) ?_
    obtain ⟨v20, e_v20, h⟩ := md_ob h
    refine md_lI (k := 111) hj cx hw (by decide) rfl rfl rfl e_v20 dX12_begin_245 ?_
    refine lv_aload_n cx.1 cx.2.1 dX12_begin_246 rfl (lv_at hl 2 rfl) ?_
    refine md_gI (k := 93) cx hw hin12c rfl (by decide) (List.mem_cons_of_mem _ mm_588) dX12_begin_247 ?_
    refine lv_icmp_le (tgt := 262) cx.1 cx.2.1 dX12_begin_250 (by decide) (fun c250 => ?_) (fun c250 => ?_)
    · have h := md_ip c250 h
      refine lv_aload_n cx.1 cx.2.1 dX12_begin_262 rfl (lv_at hl 2 rfl) ?_
      refine md_gI (k := 93) cx hw hin12c rfl (by decide) (List.mem_cons_of_mem _ mm_588) dX12_begin_263 ?_
      exact J266 σ19 l1 l2 l4 t0 ((((60 : Int32) * l1) + v15)) ((mI σ19 93)) _ _ _ h hw (lv_sub hl [2, 3, 4, 5, 1, 0] rfl)
    · have h := md_in c250 h
      refine lv_aload_n cx.1 cx.2.1 dX12_begin_253 rfl (lv_at hl 2 rfl) ?_
      refine md_gR (k := 111) cx hw hin12c (by decide) (by decide) (List.mem_cons_of_mem _ mm_539) dX12_begin_254 ?_
      refine lv_iload_n cx.1 cx.2.1 dX12_begin_257 rfl (lv_at hl 3 rfl) ?_
      obtain ⟨v21, e_v21, h⟩ := md_ob h
      refine md_lI (k := 111) hj cx hw (by decide) rfl rfl rfl e_v21 dX12_begin_258 ?_
      refine lv_goto (tgt := 266) cx.1 cx.2.1 dX12_begin_259 (by decide) ?_
      exact J266 σ19 l1 l2 l4 t0 ((((60 : Int32) * l1) + v15)) v21 _ _ _ h hw (lv_sub hl [2, 3, 4, 5, 1, 0] rfl)
  have J203 : ∀ (σ : md_S) (l1 : Int32) (l2 : Int32) (l4 : Int32) (H : Heap) (locs : List Loc) (ls : Array Slot), f_X12_begin_J203 n σ l1 l2 l4 = some p → hp_w D vwCl (hp_Tl cA) E (hp_A (md_pic cA ad σ0) sz) ss H locs (md_pic cA ad σ) → lv_has ls 10 [(0, .ref (ad 137)), (1, .int l1), (2, .int l2), (4, .int l4)] → W pp l ee ({ frames := 2, cells := 0, slots := 0, locals := 49 }) ss mm [.ref (ad 137), .int a1, .int a2, .int a3].toArray bb mt cd H locs 0 0 (MQ bb (hp_Qi D vwCl (hp_Tl cA) sz (md_pic cA ad σ0) (fun r u => r = p.1 ∧ u = md_pic cA ad p.2)) [.ref (ad 137), .int a1, .int a2, .int a3].toArray ss 0 0 (hp_A (md_pic cA ad σ0) sz)) (F0 mm 203 ls []) := by
    intro σ l1 l2 l4 H locs ls h hw hl
    refine lv_iconst (v := 0) cx.1 cx.2.1 dX12_begin_203 (by decide) ?_
    exact J204 σ l1 l2 l4 0 _ _ _ h hw (lv_sub hl [0, 1, 2, 3] rfl)
  have J175 : ∀ (σ : md_S) (l1 : Int32) (l2 : Int32) (l4 : Int32) (t0 : Int32) (H : Heap) (locs : List Loc) (ls : Array Slot), f_X12_begin_J175 n σ l1 l2 l4 t0 = some p → hp_w D vwCl (hp_Tl cA) E (hp_A (md_pic cA ad σ0) sz) ss H locs (md_pic cA ad σ) → lv_has ls 10 [(0, .ref (ad 137)), (1, .int l1), (2, .int l2), (4, .int l4)] → W pp l ee ({ frames := 2, cells := 0, slots := 0, locals := 49 }) ss mm [.ref (ad 137), .int a1, .int a2, .int a3].toArray bb mt cd H locs 0 0 (MQ bb (hp_Qi D vwCl (hp_Tl cA) sz (md_pic cA ad σ0) (fun r u => r = p.1 ∧ u = md_pic cA ad p.2)) [.ref (ad 137), .int a1, .int a2, .int a3].toArray ss 0 0 (hp_A (md_pic cA ad σ0) sz)) (F0 mm 175 ls [.int t0]) := by
    intro σ l1 l2 l4 t0 H locs ls h hw hl
    refine lv_istore (lv' := [(6, .int t0), (0, .ref (ad 137)), (1, .int l1), (2, .int l2), (4, .int l4)]) cx.1 cx.2.1 dX12_begin_175 hl (by decide) rfl (fun ls hl => ?_)
    refine lv_aload_n cx.1 cx.2.1 dX12_begin_177 rfl (lv_at hl 1 rfl) ?_
    refine md_gI (k := 87) cx hw hin12c rfl (by decide) (List.mem_cons_of_mem _ mm_582) dX12_begin_178 ?_
    refine lv_if_eq (tgt := 203) cx.1 cx.2.1 dX12_begin_181 (by decide) (fun c181 => ?_) (fun c181 => ?_)
    · have h := md_ip c181 h
      exact J203 σ l1 l2 l4 _ _ _ h hw (lv_sub hl [1, 2, 3, 4] rfl)
    · have h := md_in c181 h
      refine lv_aload_n cx.1 cx.2.1 dX12_begin_184 rfl (lv_at hl 1 rfl) ?_
      refine md_gR (k := 47) cx hw hin12c (by decide) (by decide) (List.mem_cons_of_mem _ mm_144) dX12_begin_185 ?_
      refine lv_iload_n cx.1 cx.2.1 dX12_begin_188 rfl (lv_at hl 3 rfl) ?_
      obtain ⟨v22, e_v22, h⟩ := md_ob h
      refine md_lZ (k := 47) hj cx hw (by decide) rfl rfl rfl e_v22 dX12_begin_189 ?_
      refine lv_if_eq (tgt := 203) cx.1 cx.2.1 dX12_begin_190 (by decide) (fun c190 => ?_) (fun c190 => ?_)
      · have h := md_ip c190 h
        exact J203 σ l1 l2 l4 _ _ _ h hw (lv_sub hl [1, 2, 3, 4] rfl)
      · have h := md_in c190 h
        refine lv_aload_n cx.1 cx.2.1 dX12_begin_193 rfl (lv_at hl 1 rfl) ?_
        refine lv_iload_n cx.1 cx.2.1 dX12_begin_194 rfl (lv_at hl 3 rfl) ?_
        refine lv_iload cx.1 cx.2.1 dX12_begin_195 (lv_at hl 0 rfl) ?_
        obtain ⟨p23, e_p23, h⟩ := md_ob h
        refine hp_callVi (As := [.int l2, .int t0]) (rest := []) cx hw (km_X12_contextOf l D cA E _ ad hj hE n σ l2 t0 p23 e_p23) (cwV 2 cx.2.2.2.2.2.1 (md_giV mm_583 mm_584 mm_585 mm_5 mm_586) rfl rfl rfl hd_X12_contextOf ⟨Nat.le_of_ble_eq_true rfl, Nat.le_of_ble_eq_true rfl⟩) md_at0 rfl rfl hl.1 rfl (Nat.le_of_ble_eq_true rfl) dX12_begin_197 ⟨Nat.le_refl _, Nat.le_refl _⟩ (fun r u H locs hp hw => ?_)
        obtain ⟨rfl, rfl⟩ := hp
        refine lv_goto (tgt := 204) cx.1 cx.2.1 dX12_begin_200 (by decide) ?_
        exact J204 p23.2 l1 l2 l4 (p23.1) _ _ _ h hw (lv_sub hl [1, 2, 3, 4] rfl)
  have J143 : ∀ (σ : md_S) (l1 : Int32) (l2 : Int32) (l3 : Int32) (l4 : Int32) (l5 : Int32) (t0 : Int32) (t1 : Int32) (H : Heap) (locs : List Loc) (ls : Array Slot), f_X12_begin_J143 n σ l1 l2 l3 l4 l5 t0 t1 = some p → hp_w D vwCl (hp_Tl cA) E (hp_A (md_pic cA ad σ0) sz) ss H locs (md_pic cA ad σ) → lv_has ls 10 [(0, .ref (ad 137)), (1, .int l1), (2, .int l2), (3, .int l3), (4, .int l4), (5, .int l5)] → W pp l ee ({ frames := 2, cells := 0, slots := 0, locals := 49 }) ss mm [.ref (ad 137), .int a1, .int a2, .int a3].toArray bb mt cd H locs 0 0 (MQ bb (hp_Qi D vwCl (hp_Tl cA) sz (md_pic cA ad σ0) (fun r u => r = p.1 ∧ u = md_pic cA ad p.2)) [.ref (ad 137), .int a1, .int a2, .int a3].toArray ss 0 0 (hp_A (md_pic cA ad σ0) sz)) (F0 mm 143 ls [.int t0, .int t1, .ref (ad 104)]) := by
    intro σ l1 l2 l3 l4 l5 t0 t1 H locs ls h hw hl
    obtain ⟨σ24, e_σ24, h⟩ := md_ob h
    refine md_sI (k := 104) hj cx hw (by decide) rfl rfl rfl e_σ24 dX12_begin_143 (fun H locs hw => ?_)
    refine lv_aload_n cx.1 cx.2.1 dX12_begin_144 rfl (lv_at hl 0 rfl) ?_
    refine md_gR (k := 36) cx hw hin12c (by decide) (by decide) (List.mem_cons_of_mem _ mm_139) dX12_begin_145 ?_
    refine lv_iload_n cx.1 cx.2.1 dX12_begin_148 rfl (lv_at hl 2 rfl) ?_
    obtain ⟨v25, e_v25, h⟩ := md_ob h
    refine md_lI (k := 36) hj cx hw (by decide) rfl rfl rfl e_v25 dX12_begin_149 ?_
    refine lv_iconst (v := 4) cx.1 cx.2.1 dX12_begin_150 (by decide) ?_
    refine lv_icmp_ne (tgt := 158) cx.1 cx.2.1 dX12_begin_151 (by decide) (fun c151 => ?_) (fun c151 => ?_)
    · have h := md_in c151 h
      refine lv_iload cx.1 cx.2.1 dX12_begin_158 (lv_at hl 5 rfl) ?_
      refine lv_iconst (v := (-1)) cx.1 cx.2.1 dX12_begin_160 (by decide) ?_
      refine lv_icmp_ne (tgt := 168) cx.1 cx.2.1 dX12_begin_161 (by decide) (fun c161 => ?_) (fun c161 => ?_)
      · have h := md_in c161 h
        refine lv_aload_n cx.1 cx.2.1 dX12_begin_168 rfl (lv_at hl 0 rfl) ?_
        refine md_gR (k := 116) cx hw hin12c (by decide) (by decide) (List.mem_cons_of_mem _ mm_581) dX12_begin_169 ?_
        refine lv_iload cx.1 cx.2.1 dX12_begin_172 (lv_at hl 5 rfl) ?_
        obtain ⟨v26, e_v26, h⟩ := md_ob h
        refine md_lI (k := 116) hj cx hw (by decide) rfl rfl rfl e_v26 dX12_begin_174 ?_
        exact J175 σ24 l1 l2 l4 v26 _ _ _ h hw (lv_sub hl [0, 1, 2, 4] rfl)
      · have h := md_ip c161 h
        refine lv_iconst (v := 0) cx.1 cx.2.1 dX12_begin_164 (by decide) ?_
        refine lv_goto (tgt := 175) cx.1 cx.2.1 dX12_begin_165 (by decide) ?_
        exact J175 σ24 l1 l2 l4 0 _ _ _ h hw (lv_sub hl [0, 1, 2, 4] rfl)
    · have h := md_ip c151 h
      refine lv_iload_n cx.1 cx.2.1 dX12_begin_154 rfl (lv_at hl 3 rfl) ?_
      refine lv_goto (tgt := 175) cx.1 cx.2.1 dX12_begin_155 (by decide) ?_
      exact J175 σ24 l1 l2 l4 l3 _ _ _ h hw (lv_sub hl [0, 1, 2, 4] rfl)
  have J121 : ∀ (σ : md_S) (l1 : Int32) (l2 : Int32) (l3 : Int32) (l4 : Int32) (l5 : Int32) (t0 : Int32) (t1 : Int32) (H : Heap) (locs : List Loc) (ls : Array Slot), f_X12_begin_J121 n σ l1 l2 l3 l4 l5 t0 t1 = some p → hp_w D vwCl (hp_Tl cA) E (hp_A (md_pic cA ad σ0) sz) ss H locs (md_pic cA ad σ) → lv_has ls 10 [(0, .ref (ad 137)), (1, .int l1), (2, .int l2), (3, .int l3), (4, .int l4), (5, .int l5)] → W pp l ee ({ frames := 2, cells := 0, slots := 0, locals := 49 }) ss mm [.ref (ad 137), .int a1, .int a2, .int a3].toArray bb mt cd H locs 0 0 (MQ bb (hp_Qi D vwCl (hp_Tl cA) sz (md_pic cA ad σ0) (fun r u => r = p.1 ∧ u = md_pic cA ad p.2)) [.ref (ad 137), .int a1, .int a2, .int a3].toArray ss 0 0 (hp_A (md_pic cA ad σ0) sz)) (F0 mm 121 ls [.int t0, .int t1, .ref (ad 103)]) := by
    intro σ l1 l2 l3 l4 l5 t0 t1 H locs ls h hw hl
    obtain ⟨σ27, e_σ27, h⟩ := md_ob h
    refine md_sI (k := 103) hj cx hw (by decide) rfl rfl rfl e_σ27 dX12_begin_121 (fun H locs hw => ?_)
    refine lv_aload_n cx.1 cx.2.1 dX12_begin_122 rfl (lv_at hl 0 rfl) ?_
    refine md_gR (k := 104) cx hw hin12c (by decide) (by decide) (List.mem_cons_of_mem _ mm_537) dX12_begin_123 ?_
    refine lv_iload cx.1 cx.2.1 dX12_begin_126 (lv_at hl 4 rfl) ?_
    refine lv_aload_n cx.1 cx.2.1 dX12_begin_128 rfl (lv_at hl 0 rfl) ?_
    refine md_gR (k := 36) cx hw hin12c (by decide) (by decide) (List.mem_cons_of_mem _ mm_139) dX12_begin_129 ?_
    refine lv_iload_n cx.1 cx.2.1 dX12_begin_132 rfl (lv_at hl 2 rfl) ?_
    obtain ⟨v28, e_v28, h⟩ := md_ob h
    refine md_lI (k := 36) hj cx hw (by decide) rfl rfl rfl e_v28 dX12_begin_133 ?_
    refine lv_iconst (v := 4) cx.1 cx.2.1 dX12_begin_134 (by decide) ?_
    refine lv_icmp_ne (tgt := 142) cx.1 cx.2.1 dX12_begin_135 (by decide) (fun c135 => ?_) (fun c135 => ?_)
    · have h := md_in c135 h
      refine lv_iconst (v := (-1)) cx.1 cx.2.1 dX12_begin_142 (by decide) ?_
      exact J143 σ27 l1 l2 l3 l4 l5 ((-1)) l4 _ _ _ h hw (lv_sub hl [0, 1, 2, 3, 4, 5] rfl)
    · have h := md_ip c135 h
      refine lv_iload_n cx.1 cx.2.1 dX12_begin_138 rfl (lv_at hl 3 rfl) ?_
      refine lv_goto (tgt := 143) cx.1 cx.2.1 dX12_begin_139 (by decide) ?_
      exact J143 σ27 l1 l2 l3 l4 l5 l3 l4 _ _ _ h hw (lv_sub hl [0, 1, 2, 3, 4, 5] rfl)
  have J88 : ∀ (σ : md_S) (l1 : Int32) (l2 : Int32) (l3 : Int32) (l4 : Int32) (t0 : Int32) (H : Heap) (locs : List Loc) (ls : Array Slot), f_X12_begin_J88 n σ l1 l2 l3 l4 t0 = some p → hp_w D vwCl (hp_Tl cA) E (hp_A (md_pic cA ad σ0) sz) ss H locs (md_pic cA ad σ) → lv_has ls 10 [(0, .ref (ad 137)), (1, .int l1), (2, .int l2), (3, .int l3), (4, .int l4)] → W pp l ee ({ frames := 2, cells := 0, slots := 0, locals := 49 }) ss mm [.ref (ad 137), .int a1, .int a2, .int a3].toArray bb mt cd H locs 0 0 (MQ bb (hp_Qi D vwCl (hp_Tl cA) sz (md_pic cA ad σ0) (fun r u => r = p.1 ∧ u = md_pic cA ad p.2)) [.ref (ad 137), .int a1, .int a2, .int a3].toArray ss 0 0 (hp_A (md_pic cA ad σ0) sz)) (F0 mm 88 ls [.int t0]) := by
    intro σ l1 l2 l3 l4 t0 H locs ls h hw hl
    refine lv_istore (lv' := [(5, .int t0), (0, .ref (ad 137)), (1, .int l1), (2, .int l2), (3, .int l3), (4, .int l4)]) cx.1 cx.2.1 dX12_begin_88 hl (by decide) rfl (fun ls hl => ?_)
    refine lv_aload_n cx.1 cx.2.1 dX12_begin_90 rfl (lv_at hl 1 rfl) ?_
    refine md_gR (k := 102) cx hw hin12c (by decide) (by decide) (List.mem_cons_of_mem _ mm_535) dX12_begin_91 ?_
    refine lv_iload cx.1 cx.2.1 dX12_begin_94 (lv_at hl 5 rfl) ?_
    refine lv_iload_n cx.1 cx.2.1 dX12_begin_96 rfl (lv_at hl 3 rfl) ?_
    obtain ⟨σ29, e_σ29, h⟩ := md_ob h
    refine md_sI (k := 102) hj cx hw (by decide) rfl rfl rfl e_σ29 dX12_begin_97 (fun H locs hw => ?_)
    refine lv_aload_n cx.1 cx.2.1 dX12_begin_98 rfl (lv_at hl 1 rfl) ?_
    refine md_gR (k := 103) cx hw hin12c (by decide) (by decide) (List.mem_cons_of_mem _ mm_536) dX12_begin_99 ?_
    refine lv_iload cx.1 cx.2.1 dX12_begin_102 (lv_at hl 5 rfl) ?_
    refine lv_iload cx.1 cx.2.1 dX12_begin_104 (lv_at hl 0 rfl) ?_
    refine lv_iconst (v := (-1)) cx.1 cx.2.1 dX12_begin_106 (by decide) ?_
    refine lv_icmp_ne (tgt := 114) cx.1 cx.2.1 dX12_begin_107 (by decide) (fun c107 => ?_) (fun c107 => ?_)
    · have h := md_in c107 h
      refine lv_aload_n cx.1 cx.2.1 dX12_begin_114 rfl (lv_at hl 1 rfl) ?_
      refine md_gR (k := 115) cx hw hin12c (by decide) (by decide) (List.mem_cons_of_mem _ mm_580) dX12_begin_115 ?_
      refine lv_iload cx.1 cx.2.1 dX12_begin_118 (lv_at hl 0 rfl) ?_
      obtain ⟨v30, e_v30, h⟩ := md_ob h
      refine md_lI (k := 115) hj cx hw (by decide) rfl rfl rfl e_v30 dX12_begin_120 ?_
      exact J121 σ29 l1 l2 l3 l4 t0 v30 l4 _ _ _ h hw (lv_sub hl [1, 2, 3, 4, 5, 0] rfl)
    · have h := md_ip c107 h
      refine lv_iconst (v := (-1)) cx.1 cx.2.1 dX12_begin_110 (by decide) ?_
      refine lv_goto (tgt := 121) cx.1 cx.2.1 dX12_begin_111 (by decide) ?_
      exact J121 σ29 l1 l2 l3 l4 t0 ((-1)) l4 _ _ _ h hw (lv_sub hl [1, 2, 3, 4, 5, 0] rfl)
  refine lv_aload_n cx.1 cx.2.1 dX12_begin_0 rfl (lv_at hl 0 rfl) ?_
  refine md_gI (k := 89) cx hw hin12c rfl (by decide) (List.mem_cons_of_mem _ mm_572) dX12_begin_1 ?_
  refine lv_aload_n cx.1 cx.2.1 dX12_begin_4 rfl (lv_at hl 0 rfl) ?_
  refine md_gI (k := 90) cx hw hin12c rfl (by decide) (List.mem_cons_of_mem _ mm_573) dX12_begin_5 ?_
  refine lv_icmp_ne (tgt := 23) cx.1 cx.2.1 dX12_begin_8 (by decide) (fun c8 => ?_) (fun c8 => ?_)
  · have h := md_in c8 h
    refine lv_aload_n cx.1 cx.2.1 dX12_begin_23 rfl (lv_at hl 0 rfl) ?_
    refine md_gR (k := 111) cx hw hin12c (by decide) (by decide) (List.mem_cons_of_mem _ mm_539) dX12_begin_24 ?_
    refine lv_iload_n cx.1 cx.2.1 dX12_begin_27 rfl (lv_at hl 1 rfl) ?_
    obtain ⟨v31, e_v31, h⟩ := md_ob h
    refine md_lI (k := 111) hj cx hw (by decide) rfl rfl rfl e_v31 dX12_begin_28 ?_
    refine lv_bipush (v := 60) cx.1 cx.2.1 dX12_begin_29 (by decide) ?_
    refine lv_icmp_ne (tgt := 42) cx.1 cx.2.1 dX12_begin_31 (by decide) (fun c31 => ?_) (fun c31 => ?_)
    · have h := md_in c31 h
      refine lv_aload_n cx.1 cx.2.1 dX12_begin_42 rfl (lv_at hl 0 rfl) ?_
      refine lv_dup cx.1 cx.2.1 dX12_begin_43 rfl ?_
      refine md_gI (k := 89) cx hw hin12c rfl (by decide) (List.mem_cons_of_mem _ mm_572) dX12_begin_44 ?_
      refine lv_iconst (v := 1) cx.1 cx.2.1 dX12_begin_47 (by decide) ?_
      refine lv_iadd cx.1 cx.2.1 dX12_begin_48 ?_
      obtain ⟨σ32, e_σ32, h⟩ := md_ob h
      refine md_pI (k := 89) cx hw hin12c rfl (by decide) rfl (List.mem_cons_of_mem _ mm_572) rfl e_σ32 dX12_begin_49 (fun H locs hw => ?_)
      refine lv_aload_n cx.1 cx.2.1 dX12_begin_52 rfl (lv_at hl 0 rfl) ?_
      refine md_gI (k := 101) cx hw hin12c rfl (by decide) (List.mem_cons_of_mem _ mm_574) dX12_begin_53 ?_
      refine lv_istore (lv' := [(4, .int (mI σ32 101)), (0, .ref (ad 137)), (1, .int a1), (2, .int a2), (3, .int a3)]) cx.1 cx.2.1 dX12_begin_56 hl (by decide) rfl (fun ls hl => ?_)
      refine lv_aload_n cx.1 cx.2.1 dX12_begin_58 rfl (lv_at hl 1 rfl) ?_
      refine lv_dup cx.1 cx.2.1 dX12_begin_59 rfl ?_
      refine md_gI (k := 101) cx hw hin12c rfl (by decide) (List.mem_cons_of_mem _ mm_574) dX12_begin_60 ?_
      refine lv_iconst (v := 1) cx.1 cx.2.1 dX12_begin_63 (by decide) ?_
      refine lv_iadd cx.1 cx.2.1 dX12_begin_64 ?_
      obtain ⟨σ33, e_σ33, h⟩ := md_ob h
      refine md_pI (k := 101) cx hw hin12c rfl (by decide) rfl (List.mem_cons_of_mem _ mm_574) rfl e_σ33 dX12_begin_65 (fun H locs hw => ?_)
      refine lv_aload_n cx.1 cx.2.1 dX12_begin_68 rfl (lv_at hl 1 rfl) ?_
      refine md_gR (k := 111) cx hw hin12c (by decide) (by decide) (List.mem_cons_of_mem _ mm_539) dX12_begin_69 ?_
      refine lv_aload_n cx.1 cx.2.1 dX12_begin_72 rfl (lv_at hl 1 rfl) ?_
      refine md_gI (k := 127) cx hw hin12c rfl (by decide) (List.mem_cons_of_mem _ mm_538) dX12_begin_73 ?_
      obtain ⟨v34, e_v34, h⟩ := md_ob h
      refine md_lI (k := 111) hj cx hw (by decide) rfl rfl rfl e_v34 dX12_begin_76 ?_
      refine lv_if_le (tgt := 87) cx.1 cx.2.1 dX12_begin_77 (by decide) (fun c77 => ?_) (fun c77 => ?_)
      · have h := md_ip c77 h
        refine lv_iconst (v := (-1)) cx.1 cx.2.1 dX12_begin_87 (by decide) ?_
        exact J88 σ33 a1 a2 a3 ((mI σ32 101)) ((-1)) _ _ _ h hw (lv_sub hl [1, 2, 3, 4, 0] rfl)
      · have h := md_in c77 h
        refine lv_aload_n cx.1 cx.2.1 dX12_begin_80 rfl (lv_at hl 1 rfl) ?_
        obtain ⟨p35, e_p35, h⟩ := md_ob h
        refine hp_callVi (As := []) (rest := []) cx hw (km_X12_frameAt l D cA E _ ad hj hE n σ33  p35 e_p35) (cwV 0 cx.2.2.2.2.2.1 (md_giV mm_551 mm_552 mm_553 mm_5 mm_554) rfl rfl rfl hd_X12_frameAt ⟨Nat.le_of_ble_eq_true rfl, Nat.le_of_ble_eq_true rfl⟩) md_at0 rfl rfl hl.1 rfl (Nat.le_of_ble_eq_true rfl) dX12_begin_81 ⟨Nat.le_refl _, Nat.le_refl _⟩ (fun r u H locs hp hw => ?_)
        obtain ⟨rfl, rfl⟩ := hp
        refine lv_goto (tgt := 88) cx.1 cx.2.1 dX12_begin_84 (by decide) ?_
        exact J88 p35.2 a1 a2 a3 ((mI σ32 101)) (p35.1) _ _ _ h hw (lv_sub hl [1, 2, 3, 4, 0] rfl)
    · have h := md_ip c31 h
      refine lv_aload_n cx.1 cx.2.1 dX12_begin_34 rfl (lv_at hl 0 rfl) ?_
      refine lv_bipush (v := 6) cx.1 cx.2.1 dX12_begin_35 (by decide) ?_
      obtain ⟨p36, e_p36, h⟩ := md_ob h
      refine hp_callVv (As := [.int 6]) (rest := []) cx hw (km_X12_failure l D cA E _ ad hj hE n σ0 (6 : Int32) p36 e_p36) (cwV 1 cx.2.2.2.2.2.1 (md_giV mm_575 mm_576 mm_577 mm_5 mm_578) rfl rfl rfl hd_X12_failure ⟨Nat.le_of_ble_eq_true rfl, Nat.le_of_ble_eq_true rfl⟩) md_at0 rfl rfl hl.1 rfl (Nat.le_of_ble_eq_true rfl) dX12_begin_37 ⟨Nat.le_refl _, Nat.le_refl _⟩ (fun u H locs hp hw => ?_)
      obtain rfl := hp
      refine lv_iconst (v := 0) cx.1 cx.2.1 dX12_begin_40 (by decide) ?_
      exact hp_zret cx hw (md_ret h) (by decide) dX12_begin_41
  · have h := md_ip c8 h
    refine lv_aload_n cx.1 cx.2.1 dX12_begin_11 rfl (lv_at hl 0 rfl) ?_
    refine lv_iconst (v := 1) cx.1 cx.2.1 dX12_begin_12 (by decide) ?_
    obtain ⟨σ37, e_σ37, h⟩ := md_ob h
    refine md_pZ (k := 129) cx hw hin12c rfl (by decide) rfl (List.mem_cons_of_mem _ mm_579) rfl (by decide) e_σ37 dX12_begin_13 (fun H locs hw => ?_)
    refine lv_aload_n cx.1 cx.2.1 dX12_begin_16 rfl (lv_at hl 0 rfl) ?_
    refine lv_iconst (v := 0) cx.1 cx.2.1 dX12_begin_17 (by decide) ?_
    obtain ⟨σ38, e_σ38, h⟩ := md_ob h
    refine md_pZ (k := 128) cx hw hin12c rfl (by decide) rfl (List.mem_cons_of_mem _ mm_569) rfl (by decide) e_σ38 dX12_begin_18 (fun H locs hw => ?_)
    refine lv_iconst (v := 0) cx.1 cx.2.1 dX12_begin_21 (by decide) ?_
    exact hp_zret cx hw (md_ret h) (by decide) dX12_begin_22
set_option maxHeartbeats 4000000 in
set_option maxRecDepth 100000 in
theorem km_X12_newThing (l : Launch) (D : va_G) (cA : Nat → ClassId) (E : hp_N) (sz : Nat) (ad : Nat → Nat) (hj : md_inj ad) (hE : md_E E) (n : Nat) (σ0 : md_S) (a1 : Int32) (a2 : Int32) (p : (Int32 × md_S)) (h : f_X12_newThing n σ0 a1 a2 = some p) : Met l yX12_newThing (Cond.code yX12_newThing cX12_newThing 4 (some .int) :: v_MOD) ({ frames := 0, cells := 0, slots := 0, locals := 0 }) (hp_Pc D vwCl (hp_Tl cA) E sz (md_pic cA ad σ0) [.ref (ad 137), .int a1, .int a2]) (hp_Qi D vwCl (hp_Tl cA) sz (md_pic cA ad σ0) (fun r u => r = p.1 ∧ u = md_pic cA ad p.2)) 0 0 (hp_A (md_pic cA ad σ0) sz) := by
  refine hp_ofW (cc := cX12_newThing) (maxL := 4) (ret := (some .int)) (by decide) rfl (Nat.le_of_ble_eq_true rfl) ?_
  intro pp ee ss mm bb mt cd ls cx hsz hw hl
  have hl : lv_has ls 4 [(0, .ref (ad 137)), (1, .int a1), (2, .int a2)] := hl
  refine lv_aload_n cx.1 cx.2.1 dX12_newThing_0 rfl (lv_at hl 0 rfl) ?_
  refine md_gR (k := 96) cx hw hin12c (by decide) (by decide) (List.mem_cons_of_mem _ mm_593) dX12_newThing_1 ?_
  refine lv_aload_n cx.1 cx.2.1 dX12_newThing_4 rfl (lv_at hl 0 rfl) ?_
  refine md_gI (k := 95) cx hw hin12c rfl (by decide) (List.mem_cons_of_mem _ mm_594) dX12_newThing_5 ?_
  refine lv_iload_n cx.1 cx.2.1 dX12_newThing_8 rfl (lv_at hl 1 rfl) ?_
  obtain ⟨σ1, e_σ1, h⟩ := md_ob h
  refine md_sI (k := 96) hj cx hw (by decide) rfl rfl rfl e_σ1 dX12_newThing_9 (fun H locs hw => ?_)
  refine lv_aload_n cx.1 cx.2.1 dX12_newThing_10 rfl (lv_at hl 0 rfl) ?_
  refine md_gR (k := 97) cx hw hin12c (by decide) (by decide) (List.mem_cons_of_mem _ mm_595) dX12_newThing_11 ?_
  refine lv_aload_n cx.1 cx.2.1 dX12_newThing_14 rfl (lv_at hl 0 rfl) ?_
  refine md_gI (k := 95) cx hw hin12c rfl (by decide) (List.mem_cons_of_mem _ mm_594) dX12_newThing_15 ?_
  refine lv_aload_n cx.1 cx.2.1 dX12_newThing_18 rfl (lv_at hl 0 rfl) ?_
  refine md_gI (k := 98) cx hw hin12c rfl (by decide) (List.mem_cons_of_mem _ mm_596) dX12_newThing_19 ?_
  obtain ⟨σ2, e_σ2, h⟩ := md_ob h
  refine md_sI (k := 97) hj cx hw (by decide) rfl rfl rfl e_σ2 dX12_newThing_22 (fun H locs hw => ?_)
  refine lv_iconst (v := 0) cx.1 cx.2.1 dX12_newThing_23 (by decide) ?_
  refine lv_istore_n (lv' := [(3, .int 0), (0, .ref (ad 137)), (1, .int a1), (2, .int a2)]) cx.1 cx.2.1 dX12_newThing_24 rfl hl (by decide) rfl (fun ls hl => ?_)
  have L25 : ∀ (j : Nat) (σ : md_S) (l2 : Int32) (l3 : Int32) (q : (md_S × Int32)) (H : Heap) (locs : List Loc) (ls : Array Slot), f_X12_newThing_L25 n l2 j σ l3 = some q → hp_w D vwCl (hp_Tl cA) E (hp_A (md_pic cA ad σ0) sz) ss H locs (md_pic cA ad σ) → lv_has ls 4 [(0, .ref (ad 137)), (2, .int l2), (3, .int l3)] → (∀ (H : Heap) (locs : List Loc) (ls : Array Slot), hp_w D vwCl (hp_Tl cA) E (hp_A (md_pic cA ad σ0) sz) ss H locs (md_pic cA ad q.1) → lv_has ls 4 [(0, .ref (ad 137)), (2, .int l2)] → W pp l ee ({ frames := 0, cells := 0, slots := 0, locals := 0 }) ss mm [.ref (ad 137), .int a1, .int a2].toArray bb mt cd H locs 0 0 (MQ bb (hp_Qi D vwCl (hp_Tl cA) sz (md_pic cA ad σ0) (fun r u => r = p.1 ∧ u = md_pic cA ad p.2)) [.ref (ad 137), .int a1, .int a2].toArray ss 0 0 (hp_A (md_pic cA ad σ0) sz)) (F0 mm 60 ls [])) → W pp l ee ({ frames := 0, cells := 0, slots := 0, locals := 0 }) ss mm [.ref (ad 137), .int a1, .int a2].toArray bb mt cd H locs 0 0 (MQ bb (hp_Qi D vwCl (hp_Tl cA) sz (md_pic cA ad σ0) (fun r u => r = p.1 ∧ u = md_pic cA ad p.2)) [.ref (ad 137), .int a1, .int a2].toArray ss 0 0 (hp_A (md_pic cA ad σ0) sz)) (F0 mm 25 ls []) := by
    intro j
    induction j with
    | zero => intro σ l2 l3 q H locs ls h; exact nomatch h
    | succ j ih =>
      intro σ l2 l3 q H locs ls h hw hl K
      refine lv_iload_n cx.1 cx.2.1 dX12_newThing_25 rfl (lv_at hl 2 rfl) ?_
      refine lv_iload_n cx.1 cx.2.1 dX12_newThing_26 rfl (lv_at hl 1 rfl) ?_
      refine lv_icmp_ge (tgt := 60) cx.1 cx.2.1 dX12_newThing_27 (by decide) (fun c27 => ?_) (fun c27 => ?_)
      · have h := md_ip c27 h
        obtain rfl := Option.some.inj h
        exact K _ _ _ hw (lv_sub hl [0, 1] rfl)
      · have h := md_in c27 h
        refine lv_aload_n cx.1 cx.2.1 dX12_newThing_30 rfl (lv_at hl 0 rfl) ?_
        refine md_gR (k := 99) cx hw hin12c (by decide) (by decide) (List.mem_cons_of_mem _ mm_597) dX12_newThing_31 ?_
        refine lv_aload_n cx.1 cx.2.1 dX12_newThing_34 rfl (lv_at hl 0 rfl) ?_
        refine md_gI (k := 98) cx hw hin12c rfl (by decide) (List.mem_cons_of_mem _ mm_596) dX12_newThing_35 ?_
        refine lv_iload_n cx.1 cx.2.1 dX12_newThing_38 rfl (lv_at hl 2 rfl) ?_
        refine lv_iadd cx.1 cx.2.1 dX12_newThing_39 ?_
        refine lv_iconst (v := 1) cx.1 cx.2.1 dX12_newThing_40 (by decide) ?_
        obtain ⟨σ3, e_σ3, h⟩ := md_ob h
        refine md_sI (k := 99) hj cx hw (by decide) rfl rfl rfl e_σ3 dX12_newThing_41 (fun H locs hw => ?_)
        refine lv_aload_n cx.1 cx.2.1 dX12_newThing_42 rfl (lv_at hl 0 rfl) ?_
        refine md_gR (k := 100) cx hw hin12c (by decide) (by decide) (List.mem_cons_of_mem _ mm_598) dX12_newThing_43 ?_
        refine lv_aload_n cx.1 cx.2.1 dX12_newThing_46 rfl (lv_at hl 0 rfl) ?_
        refine md_gI (k := 98) cx hw hin12c rfl (by decide) (List.mem_cons_of_mem _ mm_596) dX12_newThing_47 ?_
        refine lv_iload_n cx.1 cx.2.1 dX12_newThing_50 rfl (lv_at hl 2 rfl) ?_
        refine lv_iadd cx.1 cx.2.1 dX12_newThing_51 ?_
        refine lv_iconst (v := 0) cx.1 cx.2.1 dX12_newThing_52 (by decide) ?_
        obtain ⟨σ4, e_σ4, h⟩ := md_ob h
        refine md_sI (k := 100) hj cx hw (by decide) rfl rfl rfl e_σ4 dX12_newThing_53 (fun H locs hw => ?_)
        refine lv_iinc (v := (l3 + 1)) (lv' := [(3, .int (l3 + 1)), (0, .ref (ad 137)), (2, .int l2)]) cx.1 cx.2.1 dX12_newThing_54 hl (k := 2) rfl rfl (by decide) rfl (fun ls hl => ?_)
        refine lv_goto (tgt := 25) cx.1 cx.2.1 dX12_newThing_57 (by decide) ?_
        exact ih σ4 l2 ((l3 + 1)) q _ _ _ h hw (lv_sub hl [1, 2, 0] rfl) K
  obtain ⟨q5, e_q5, h⟩ := md_ob h
  refine L25 n σ2 a2 0 q5 _ _ _ e_q5 hw (lv_sub hl [1, 3, 0] rfl) (fun H locs ls hw hl => ?_)
  refine lv_aload_n cx.1 cx.2.1 dX12_newThing_60 rfl (lv_at hl 0 rfl) ?_
  refine lv_dup cx.1 cx.2.1 dX12_newThing_61 rfl ?_
  refine md_gI (k := 98) cx hw hin12c rfl (by decide) (List.mem_cons_of_mem _ mm_596) dX12_newThing_62 ?_
  refine lv_iload_n cx.1 cx.2.1 dX12_newThing_65 rfl (lv_at hl 1 rfl) ?_
  refine lv_iadd cx.1 cx.2.1 dX12_newThing_66 ?_
  obtain ⟨σ6, e_σ6, h⟩ := md_ob h
  refine md_pI (k := 98) cx hw hin12c rfl (by decide) rfl (List.mem_cons_of_mem _ mm_596) rfl e_σ6 dX12_newThing_67 (fun H locs hw => ?_)
  refine lv_aload_n cx.1 cx.2.1 dX12_newThing_70 rfl (lv_at hl 0 rfl) ?_
  refine lv_dup cx.1 cx.2.1 dX12_newThing_71 rfl ?_
  refine md_gI (k := 95) cx hw hin12c rfl (by decide) (List.mem_cons_of_mem _ mm_594) dX12_newThing_72 ?_
  refine lv_iconst (v := 1) cx.1 cx.2.1 dX12_newThing_75 (by decide) ?_
  refine lv_iadd cx.1 cx.2.1 dX12_newThing_76 ?_
  obtain ⟨σ7, e_σ7, h⟩ := md_ob h
  refine md_pI (k := 95) cx hw hin12c rfl (by decide) rfl (List.mem_cons_of_mem _ mm_594) rfl e_σ7 dX12_newThing_77 (fun H locs hw => ?_)
  refine lv_aload_n cx.1 cx.2.1 dX12_newThing_80 rfl (lv_at hl 0 rfl) ?_
  refine md_gI (k := 95) cx hw hin12c rfl (by decide) (List.mem_cons_of_mem _ mm_594) dX12_newThing_81 ?_
  refine lv_iconst (v := 1) cx.1 cx.2.1 dX12_newThing_84 (by decide) ?_
  refine lv_isub cx.1 cx.2.1 dX12_newThing_85 ?_
  exact hp_iret cx hw (md_ret h) dX12_newThing_86
set_option maxHeartbeats 4000000 in
set_option maxRecDepth 100000 in
theorem km_X12_newObject (l : Launch) (D : va_G) (cA : Nat → ClassId) (E : hp_N) (sz : Nat) (ad : Nat → Nat) (hj : md_inj ad) (hE : md_E E) (n : Nat) (σ0 : md_S) (a1 : Int32) (p : (Int32 × md_S)) (h : f_X12_newObject n σ0 a1 = some p) : Met l yX12_newObject (Cond.code yX12_newObject cX12_newObject 2 (some .int) :: v_MOD) ({ frames := 1, cells := 0, slots := 0, locals := 23 }) (hp_Pc D vwCl (hp_Tl cA) E sz (md_pic cA ad σ0) [.ref (ad 137), .int a1]) (hp_Qi D vwCl (hp_Tl cA) sz (md_pic cA ad σ0) (fun r u => r = p.1 ∧ u = md_pic cA ad p.2)) 0 0 (hp_A (md_pic cA ad σ0) sz) := by
  refine hp_ofW (cc := cX12_newObject) (maxL := 2) (ret := (some .int)) (by decide) rfl (Nat.le_of_ble_eq_true rfl) ?_
  intro pp ee ss mm bb mt cd ls cx hsz hw hl
  have hl : lv_has ls 2 [(0, .ref (ad 137)), (1, .int a1)] := hl
  refine lv_aload_n cx.1 cx.2.1 dX12_newObject_0 rfl (lv_at hl 0 rfl) ?_
  refine lv_iload_n cx.1 cx.2.1 dX12_newObject_1 rfl (lv_at hl 1 rfl) ?_
  refine lv_aload_n cx.1 cx.2.1 dX12_newObject_2 rfl (lv_at hl 0 rfl) ?_
  refine lv_iload_n cx.1 cx.2.1 dX12_newObject_3 rfl (lv_at hl 1 rfl) ?_
  obtain ⟨p1, e_p1, h⟩ := md_ob h
  refine hp_callVi (As := [.int a1]) (rest := [.int a1, .ref (ad 137)]) cx hw (km_X12_fieldsAbove l D cA E _ ad hj hE n σ0 a1 p1 e_p1) (cwV 1 cx.2.2.2.2.2.1 (md_giV mm_173 mm_174 mm_175 mm_5 mm_176) rfl rfl rfl hd_X12_fieldsAbove ⟨Nat.le_of_ble_eq_true rfl, Nat.le_of_ble_eq_true rfl⟩) md_at0 rfl rfl hl.1 rfl (Nat.le_of_ble_eq_true rfl) dX12_newObject_4 ⟨Nat.le_refl _, Nat.le_refl _⟩ (fun r u H locs hp hw => ?_)
  obtain ⟨rfl, rfl⟩ := hp
  refine lv_aload_n cx.1 cx.2.1 dX12_newObject_7 rfl (lv_at hl 0 rfl) ?_
  refine md_gR (k := 28) cx hw hin12c (by decide) (by decide) (List.mem_cons_of_mem _ mm_171) dX12_newObject_8 ?_
  refine lv_iload_n cx.1 cx.2.1 dX12_newObject_11 rfl (lv_at hl 1 rfl) ?_
  obtain ⟨v2, e_v2, h⟩ := md_ob h
  refine md_lI (k := 28) hj cx hw (by decide) rfl rfl rfl e_v2 dX12_newObject_12 ?_
  refine lv_iadd cx.1 cx.2.1 dX12_newObject_13 ?_
  obtain ⟨p3, e_p3, h⟩ := md_ob h
  refine hp_callVi (As := [.int a1, .int (p1.1 + v2)]) (rest := []) cx hw (km_X12_newThing l D cA E _ ad hj hE n p1.2 a1 ((p1.1 + v2)) p3 e_p3) (cwV 2 cx.2.2.2.2.2.1 (md_giV mm_599 mm_600 mm_601 mm_5 mm_602) rfl rfl rfl hd_X12_newThing ⟨Nat.le_of_ble_eq_true rfl, Nat.le_of_ble_eq_true rfl⟩) md_at0 rfl rfl hl.1 rfl (Nat.le_of_ble_eq_true rfl) dX12_newObject_14 ⟨Nat.le_refl _, Nat.le_refl _⟩ (fun r u H locs hp hw => ?_)
  obtain ⟨rfl, rfl⟩ := hp
  exact hp_iret cx hw (md_ret h) dX12_newObject_17
set_option maxHeartbeats 4000000 in
set_option maxRecDepth 100000 in
theorem km_X12_canGo (l : Launch) (D : va_G) (cA : Nat → ClassId) (E : hp_N) (sz : Nat) (ad : Nat → Nat) (hj : md_inj ad) (hE : md_E E) (n : Nat) (σ0 : md_S) (a1 : Int32) (p : (Int32 × md_S)) (h : f_X12_canGo n σ0 a1 = some p) : Met l yX12_canGo (Cond.code yX12_canGo cX12_canGo 2 (some .boolean) :: v_MOD) ({ frames := 0, cells := 0, slots := 0, locals := 0 }) (hp_Pc D vwCl (hp_Tl cA) E sz (md_pic cA ad σ0) [.ref (ad 137), .int a1]) (hp_Qi D vwCl (hp_Tl cA) sz (md_pic cA ad σ0) (fun r u => r = p.1 ∧ u = md_pic cA ad p.2)) 0 0 (hp_A (md_pic cA ad σ0) sz) := by
  refine hp_ofW (cc := cX12_canGo) (maxL := 2) (ret := (some .boolean)) (by decide) rfl (Nat.le_of_ble_eq_true rfl) ?_
  intro pp ee ss mm bb mt cd ls cx hsz hw hl
  have hl : lv_has ls 2 [(0, .ref (ad 137)), (1, .int a1)] := hl
  have J33 : ∀ (σ : md_S) (H : Heap) (locs : List Loc) (ls : Array Slot), f_X12_canGo_J33 n σ = some p → hp_w D vwCl (hp_Tl cA) E (hp_A (md_pic cA ad σ0) sz) ss H locs (md_pic cA ad σ) → lv_has ls 2 [] → W pp l ee ({ frames := 0, cells := 0, slots := 0, locals := 0 }) ss mm [.ref (ad 137), .int a1].toArray bb mt cd H locs 0 0 (MQ bb (hp_Qi D vwCl (hp_Tl cA) sz (md_pic cA ad σ0) (fun r u => r = p.1 ∧ u = md_pic cA ad p.2)) [.ref (ad 137), .int a1].toArray ss 0 0 (hp_A (md_pic cA ad σ0) sz)) (F0 mm 33 ls []) := by
    intro σ H locs ls h hw hl
    refine lv_iconst (v := 1) cx.1 cx.2.1 dX12_canGo_33 (by decide) ?_
    refine lv_goto (tgt := 38) cx.1 cx.2.1 dX12_canGo_34 (by decide) ?_
    exact hp_zret cx hw (md_ret h) (by decide) dX12_canGo_38
  refine lv_aload_n cx.1 cx.2.1 dX12_canGo_0 rfl (lv_at hl 0 rfl) ?_
  refine md_gR (k := 106) cx hw hin12c (by decide) (by decide) (List.mem_cons_of_mem _ mm_562) dX12_canGo_1 ?_
  refine lv_iload_n cx.1 cx.2.1 dX12_canGo_4 rfl (lv_at hl 1 rfl) ?_
  obtain ⟨v1, e_v1, h⟩ := md_ob h
  refine md_lI (k := 106) hj cx hw (by decide) rfl rfl rfl e_v1 dX12_canGo_5 ?_
  refine lv_if_ne (tgt := 37) cx.1 cx.2.1 dX12_canGo_6 (by decide) (fun c6 => ?_) (fun c6 => ?_)
  · have h := md_in c6 h
    refine lv_iconst (v := 0) cx.1 cx.2.1 dX12_canGo_37 (by decide) ?_
    exact hp_zret cx hw (md_ret h) (by decide) dX12_canGo_38
  · have h := md_ip c6 h
    refine lv_aload_n cx.1 cx.2.1 dX12_canGo_9 rfl (lv_at hl 0 rfl) ?_
    refine md_gR (k := 107) cx hw hin12c (by decide) (by decide) (List.mem_cons_of_mem _ mm_603) dX12_canGo_10 ?_
    refine lv_iload_n cx.1 cx.2.1 dX12_canGo_13 rfl (lv_at hl 1 rfl) ?_
    obtain ⟨v2, e_v2, h⟩ := md_ob h
    refine md_lI (k := 107) hj cx hw (by decide) rfl rfl rfl e_v2 dX12_canGo_14 ?_
    refine lv_iconst (v := (-1)) cx.1 cx.2.1 dX12_canGo_15 (by decide) ?_
    refine lv_icmp_eq (tgt := 33) cx.1 cx.2.1 dX12_canGo_16 (by decide) (fun c16 => ?_) (fun c16 => ?_)
    · have h := md_ip c16 h
      exact J33 σ0 _ _ _ h hw (lv_sub hl [] rfl)
    · have h := md_in c16 h
      refine lv_aload_n cx.1 cx.2.1 dX12_canGo_19 rfl (lv_at hl 0 rfl) ?_
      refine md_gR (k := 106) cx hw hin12c (by decide) (by decide) (List.mem_cons_of_mem _ mm_562) dX12_canGo_20 ?_
      refine lv_aload_n cx.1 cx.2.1 dX12_canGo_23 rfl (lv_at hl 0 rfl) ?_
      refine md_gR (k := 107) cx hw hin12c (by decide) (by decide) (List.mem_cons_of_mem _ mm_603) dX12_canGo_24 ?_
      refine lv_iload_n cx.1 cx.2.1 dX12_canGo_27 rfl (lv_at hl 1 rfl) ?_
      obtain ⟨v3, e_v3, h⟩ := md_ob h
      refine md_lI (k := 107) hj cx hw (by decide) rfl rfl rfl e_v3 dX12_canGo_28 ?_
      obtain ⟨v4, e_v4, h⟩ := md_ob h
      refine md_lI (k := 106) hj cx hw (by decide) rfl rfl rfl e_v4 dX12_canGo_29 ?_
      refine lv_if_eq (tgt := 37) cx.1 cx.2.1 dX12_canGo_30 (by decide) (fun c30 => ?_) (fun c30 => ?_)
      · have h := md_ip c30 h
        refine lv_iconst (v := 0) cx.1 cx.2.1 dX12_canGo_37 (by decide) ?_
        exact hp_zret cx hw (md_ret h) (by decide) dX12_canGo_38
      · have h := md_in c30 h
        exact J33 σ0 _ _ _ h hw (lv_sub hl [] rfl)
set_option maxHeartbeats 4000000 in
set_option maxRecDepth 100000 in
theorem km_X12_hasWaited (l : Launch) (D : va_G) (cA : Nat → ClassId) (E : hp_N) (sz : Nat) (ad : Nat → Nat) (hj : md_inj ad) (hE : md_E E) (n : Nat) (σ0 : md_S) (a1 : Int32) (p : (Int32 × md_S)) (h : f_X12_hasWaited n σ0 a1 = some p) : Met l yX12_hasWaited (Cond.code yX12_hasWaited cX12_hasWaited 2 none :: v_MOD) ({ frames := 2, cells := 0, slots := 0, locals := 47 }) (hp_Pc D vwCl (hp_Tl cA) E sz (md_pic cA ad σ0) [.ref (ad 137), .int a1]) (hp_Qv D vwCl (hp_Tl cA) sz (md_pic cA ad σ0) (fun u => u = md_pic cA ad p.2)) 0 0 (hp_A (md_pic cA ad σ0) sz) := by
  refine hp_ofW (cc := cX12_hasWaited) (maxL := 2) (ret := none) (by decide) rfl (Nat.le_of_ble_eq_true rfl) ?_
  intro pp ee ss mm bb mt cd ls cx hsz hw hl
  have hl : lv_has ls 2 [(0, .ref (ad 137)), (1, .int a1)] := hl
  refine lv_aload_n cx.1 cx.2.1 dX12_hasWaited_0 rfl (lv_at hl 0 rfl) ?_
  refine md_gR (k := 106) cx hw hin12c (by decide) (by decide) (List.mem_cons_of_mem _ mm_562) dX12_hasWaited_1 ?_
  refine lv_iload_n cx.1 cx.2.1 dX12_hasWaited_4 rfl (lv_at hl 1 rfl) ?_
  obtain ⟨v1, e_v1, h⟩ := md_ob h
  refine md_lI (k := 106) hj cx hw (by decide) rfl rfl rfl e_v1 dX12_hasWaited_5 ?_
  refine lv_iconst (v := 1) cx.1 cx.2.1 dX12_hasWaited_6 (by decide) ?_
  refine lv_icmp_ne (tgt := 29) cx.1 cx.2.1 dX12_hasWaited_7 (by decide) (fun c7 => ?_) (fun c7 => ?_)
  · have h := md_in c7 h
    refine lv_aload_n cx.1 cx.2.1 dX12_hasWaited_29 rfl (lv_at hl 0 rfl) ?_
    refine lv_aload_n cx.1 cx.2.1 dX12_hasWaited_30 rfl (lv_at hl 0 rfl) ?_
    refine md_gR (k := 110) cx hw hin12c (by decide) (by decide) (List.mem_cons_of_mem _ mm_563) dX12_hasWaited_31 ?_
    refine lv_iload_n cx.1 cx.2.1 dX12_hasWaited_34 rfl (lv_at hl 1 rfl) ?_
    obtain ⟨v2, e_v2, h⟩ := md_ob h
    refine md_lI (k := 110) hj cx hw (by decide) rfl rfl rfl e_v2 dX12_hasWaited_35 ?_
    obtain ⟨p3, e_p3, h⟩ := md_ob h
    refine hp_callVv (As := [.int v2]) (rest := []) cx hw (km_X12_failure l D cA E _ ad hj hE n σ0 v2 p3 e_p3) (cwV 1 cx.2.2.2.2.2.1 (md_giV mm_575 mm_576 mm_577 mm_5 mm_578) rfl rfl rfl hd_X12_failure ⟨Nat.le_of_ble_eq_true rfl, Nat.le_of_ble_eq_true rfl⟩) md_at0 rfl rfl hl.1 rfl (Nat.le_of_ble_eq_true rfl) dX12_hasWaited_36 ⟨Nat.le_refl _, Nat.le_refl _⟩ (fun u H locs hp hw => ?_)
    obtain rfl := hp
    exact hp_vret cx hw (md_retv h) dX12_hasWaited_39
  · have h := md_ip c7 h
    refine lv_aload_n cx.1 cx.2.1 dX12_hasWaited_10 rfl (lv_at hl 0 rfl) ?_
    refine lv_aload_n cx.1 cx.2.1 dX12_hasWaited_11 rfl (lv_at hl 0 rfl) ?_
    refine md_gR (k := 109) cx hw hin12c (by decide) (by decide) (List.mem_cons_of_mem _ mm_564) dX12_hasWaited_12 ?_
    refine lv_iload_n cx.1 cx.2.1 dX12_hasWaited_15 rfl (lv_at hl 1 rfl) ?_
    obtain ⟨v4, e_v4, h⟩ := md_ob h
    refine md_lI (k := 109) hj cx hw (by decide) rfl rfl rfl e_v4 dX12_hasWaited_16 ?_
    refine lv_aload_n cx.1 cx.2.1 dX12_hasWaited_17 rfl (lv_at hl 0 rfl) ?_
    refine md_gR (k := 110) cx hw hin12c (by decide) (by decide) (List.mem_cons_of_mem _ mm_563) dX12_hasWaited_18 ?_
    refine lv_iload_n cx.1 cx.2.1 dX12_hasWaited_21 rfl (lv_at hl 1 rfl) ?_
    obtain ⟨v5, e_v5, h⟩ := md_ob h
    refine md_lI (k := 110) hj cx hw (by decide) rfl rfl rfl e_v5 dX12_hasWaited_22 ?_
    obtain ⟨p6, e_p6, h⟩ := md_ob h
    refine hp_callVv (As := [.int v4, .int v5]) (rest := []) cx hw (km_X12_push l D cA E _ ad hj hE n σ0 v4 v5 p6 e_p6) (cwV 2 cx.2.2.2.2.2.1 (md_giV mm_558 mm_559 mm_560 mm_5 mm_561) rfl rfl rfl hd_X12_push ⟨Nat.le_of_ble_eq_true rfl, Nat.le_of_ble_eq_true rfl⟩) md_at0 rfl rfl hl.1 rfl (Nat.le_of_ble_eq_true rfl) dX12_hasWaited_23 ⟨Nat.le_refl _, Nat.le_refl _⟩ (fun u H locs hp hw => ?_)
    obtain rfl := hp
    refine lv_goto (tgt := 39) cx.1 cx.2.1 dX12_hasWaited_26 (by decide) ?_
    exact hp_vret cx hw (md_retv h) dX12_hasWaited_39
set_option maxHeartbeats 4000000 in
set_option maxRecDepth 100000 in
theorem km_X12_choose (l : Launch) (D : va_G) (cA : Nat → ClassId) (E : hp_N) (sz : Nat) (ad : Nat → Nat) (hj : md_inj ad) (hE : md_E E) (n : Nat) (σ0 : md_S) (a1 : Int32) (p : (Int32 × md_S)) (h : f_X12_choose n σ0 a1 = some p) : Met l yX12_choose (Cond.code yX12_choose cX12_choose 5 none :: v_MOD) ({ frames := 3, cells := 0, slots := 0, locals := 68 }) (hp_Pc D vwCl (hp_Tl cA) E sz (md_pic cA ad σ0) [.ref (ad 137), .int a1]) (hp_Qv D vwCl (hp_Tl cA) sz (md_pic cA ad σ0) (fun u => u = md_pic cA ad p.2)) 0 0 (hp_A (md_pic cA ad σ0) sz) := by
  refine hp_ofW (cc := cX12_choose) (maxL := 5) (ret := none) (by decide) rfl (Nat.le_of_ble_eq_true rfl) ?_
  intro pp ee ss mm bb mt cd ls cx hsz hw hl
  have hl : lv_has ls 5 [(0, .ref (ad 137)), (1, .int a1)] := hl
  refine lv_iload_n cx.1 cx.2.1 dX12_choose_0 rfl (lv_at hl 1 rfl) ?_
  refine lv_istore_n (lv' := [(2, .int a1), (0, .ref (ad 137)), (1, .int a1)]) cx.1 cx.2.1 dX12_choose_1 rfl hl (by decide) rfl (fun ls hl => ?_)
  refine lv_iconst (v := 0) cx.1 cx.2.1 dX12_choose_2 (by decide) ?_
  refine lv_istore_n (lv' := [(3, .int 0), (2, .int a1), (0, .ref (ad 137)), (1, .int a1)]) cx.1 cx.2.1 dX12_choose_3 rfl hl (by decide) rfl (fun ls hl => ?_)
  have L4 : ∀ (j : Nat) (σ : md_S) (l2 : Int32) (l3 : Int32) (q : (md_S × Int32 × Int32)) (H : Heap) (locs : List Loc) (ls : Array Slot), f_X12_choose_L4 n j σ l2 l3 = some q → hp_w D vwCl (hp_Tl cA) E (hp_A (md_pic cA ad σ0) sz) ss H locs (md_pic cA ad σ) → lv_has ls 5 [(0, .ref (ad 137)), (2, .int l2), (3, .int l3)] → (∀ (H : Heap) (locs : List Loc) (ls : Array Slot), hp_w D vwCl (hp_Tl cA) E (hp_A (md_pic cA ad σ0) sz) ss H locs (md_pic cA ad q.1) → lv_has ls 5 [(0, .ref (ad 137)), (3, .int q.2.2)] → W pp l ee ({ frames := 3, cells := 0, slots := 0, locals := 68 }) ss mm [.ref (ad 137), .int a1].toArray bb mt cd H locs 0 0 (MQ bb (hp_Qv D vwCl (hp_Tl cA) sz (md_pic cA ad σ0) (fun u => u = md_pic cA ad p.2)) [.ref (ad 137), .int a1].toArray ss 0 0 (hp_A (md_pic cA ad σ0) sz)) (F0 mm 38 ls [])) → W pp l ee ({ frames := 3, cells := 0, slots := 0, locals := 68 }) ss mm [.ref (ad 137), .int a1].toArray bb mt cd H locs 0 0 (MQ bb (hp_Qv D vwCl (hp_Tl cA) sz (md_pic cA ad σ0) (fun u => u = md_pic cA ad p.2)) [.ref (ad 137), .int a1].toArray ss 0 0 (hp_A (md_pic cA ad σ0) sz)) (F0 mm 4 ls []) := by
    intro j
    induction j with
    | zero => intro σ l2 l3 q H locs ls h; exact nomatch h
    | succ j ih =>
      intro σ l2 l3 q H locs ls h hw hl K
      have J30 : ∀ (σ : md_S) (l3 : Int32) (t0 : Int32) (t1 : Int32) (H : Heap) (locs : List Loc) (ls : Array Slot), f_X12_choose_J30 n (f_X12_choose_L4 n j) σ l3 t0 t1 = some q → hp_w D vwCl (hp_Tl cA) E (hp_A (md_pic cA ad σ0) sz) ss H locs (md_pic cA ad σ) → lv_has ls 5 [(0, .ref (ad 137)), (3, .int l3)] → W pp l ee ({ frames := 3, cells := 0, slots := 0, locals := 68 }) ss mm [.ref (ad 137), .int a1].toArray bb mt cd H locs 0 0 (MQ bb (hp_Qv D vwCl (hp_Tl cA) sz (md_pic cA ad σ0) (fun u => u = md_pic cA ad p.2)) [.ref (ad 137), .int a1].toArray ss 0 0 (hp_A (md_pic cA ad σ0) sz)) (F0 mm 30 ls [.int t0, .int t1]) := by
        intro σ l3 t0 t1 H locs ls h hw hl
        refine lv_isub cx.1 cx.2.1 dX12_choose_30 ?_
        refine lv_istore_n (lv' := [(2, .int (t1 - t0)), (0, .ref (ad 137)), (3, .int l3)]) cx.1 cx.2.1 dX12_choose_31 rfl hl (by decide) rfl (fun ls hl => ?_)
        refine lv_iinc (v := (l3 + 1)) (lv' := [(3, .int (l3 + 1)), (2, .int (t1 - t0)), (0, .ref (ad 137))]) cx.1 cx.2.1 dX12_choose_32 hl (k := 2) rfl rfl (by decide) rfl (fun ls hl => ?_)
        refine lv_goto (tgt := 4) cx.1 cx.2.1 dX12_choose_35 (by decide) ?_
        exact ih σ ((t1 - t0)) ((l3 + 1)) q _ _ _ h hw (lv_sub hl [2, 1, 0] rfl) K
      have J16 : ∀ (σ : md_S) (l2 : Int32) (l3 : Int32) (H : Heap) (locs : List Loc) (ls : Array Slot), f_X12_choose_J16 n (f_X12_choose_L4 n j) σ l2 l3 = some q → hp_w D vwCl (hp_Tl cA) E (hp_A (md_pic cA ad σ0) sz) ss H locs (md_pic cA ad σ) → lv_has ls 5 [(0, .ref (ad 137)), (2, .int l2), (3, .int l3)] → W pp l ee ({ frames := 3, cells := 0, slots := 0, locals := 68 }) ss mm [.ref (ad 137), .int a1].toArray bb mt cd H locs 0 0 (MQ bb (hp_Qv D vwCl (hp_Tl cA) sz (md_pic cA ad σ0) (fun u => u = md_pic cA ad p.2)) [.ref (ad 137), .int a1].toArray ss 0 0 (hp_A (md_pic cA ad σ0) sz)) (F0 mm 16 ls []) := by
        intro σ l2 l3 H locs ls h hw hl
        refine lv_iload_n cx.1 cx.2.1 dX12_choose_16 rfl (lv_at hl 1 rfl) ?_
        refine lv_aload_n cx.1 cx.2.1 dX12_choose_17 rfl (lv_at hl 0 rfl) ?_
        refine lv_iload_n cx.1 cx.2.1 dX12_choose_18 rfl (lv_at hl 2 rfl) ?_
        obtain ⟨p1, e_p1, h⟩ := md_ob h
        refine hp_callVi (As := [.int l3]) (rest := [.int l2]) cx hw (km_X12_canGo l D cA E _ ad hj hE n σ l3 p1 e_p1) (cwV 1 cx.2.2.2.2.2.1 (md_giV mm_604 mm_605 mm_606 mm_5 mm_607) rfl rfl rfl hd_X12_canGo ⟨Nat.le_of_ble_eq_true rfl, Nat.le_of_ble_eq_true rfl⟩) md_at0 rfl rfl hl.1 rfl (Nat.le_of_ble_eq_true rfl) dX12_choose_19 ⟨Nat.le_refl _, Nat.le_refl _⟩ (fun r u H locs hp hw => ?_)
        obtain ⟨rfl, rfl⟩ := hp
        refine lv_if_eq (tgt := 29) cx.1 cx.2.1 dX12_choose_22 (by decide) (fun c22 => ?_) (fun c22 => ?_)
        · have h := md_ip c22 h
          refine lv_iconst (v := 0) cx.1 cx.2.1 dX12_choose_29 (by decide) ?_
          exact J30 p1.2 l3 0 l2 _ _ _ h hw (lv_sub hl [0, 2] rfl)
        · have h := md_in c22 h
          refine lv_iconst (v := 1) cx.1 cx.2.1 dX12_choose_25 (by decide) ?_
          refine lv_goto (tgt := 30) cx.1 cx.2.1 dX12_choose_26 (by decide) ?_
          exact J30 p1.2 l3 1 l2 _ _ _ h hw (lv_sub hl [0, 2] rfl)
      refine lv_aload_n cx.1 cx.2.1 dX12_choose_4 rfl (lv_at hl 0 rfl) ?_
      refine lv_iload_n cx.1 cx.2.1 dX12_choose_5 rfl (lv_at hl 2 rfl) ?_
      obtain ⟨p2, e_p2, h⟩ := md_ob h
      refine hp_callVi (As := [.int l3]) (rest := []) cx hw (km_X12_canGo l D cA E _ ad hj hE n σ l3 p2 e_p2) (cwV 1 cx.2.2.2.2.2.1 (md_giV mm_604 mm_605 mm_606 mm_5 mm_607) rfl rfl rfl hd_X12_canGo ⟨Nat.le_of_ble_eq_true rfl, Nat.le_of_ble_eq_true rfl⟩) md_at0 rfl rfl hl.1 rfl (Nat.le_of_ble_eq_true rfl) dX12_choose_6 ⟨Nat.le_refl _, Nat.le_refl _⟩ (fun r u H locs hp hw => ?_)
      obtain ⟨rfl, rfl⟩ := hp
      refine lv_if_eq (tgt := 16) cx.1 cx.2.1 dX12_choose_9 (by decide) (fun c9 => ?_) (fun c9 => ?_)
      · have h := md_ip c9 h
        exact J16 p2.2 l2 l3 _ _ _ h hw (lv_sub hl [0, 1, 2] rfl)
      · have h := md_in c9 h
        refine lv_iload_n cx.1 cx.2.1 dX12_choose_12 rfl (lv_at hl 1 rfl) ?_
        refine lv_if_le (tgt := 38) cx.1 cx.2.1 dX12_choose_13 (by decide) (fun c13 => ?_) (fun c13 => ?_)
        · have h := md_ip c13 h
          obtain rfl := Option.some.inj h
          exact K _ _ _ hw (lv_sub hl [0, 2] rfl)
        · have h := md_in c13 h
          exact J16 p2.2 l2 l3 _ _ _ h hw (lv_sub hl [0, 1, 2] rfl)
  obtain ⟨q3, e_q3, h⟩ := md_ob h
  refine L4 n σ0 a1 0 q3 _ _ _ e_q3 hw (lv_sub hl [2, 1, 0] rfl) (fun H locs ls hw hl => ?_)
  refine lv_aload_n cx.1 cx.2.1 dX12_choose_38 rfl (lv_at hl 0 rfl) ?_
  refine lv_iload_n cx.1 cx.2.1 dX12_choose_39 rfl (lv_at hl 1 rfl) ?_
  obtain ⟨σ4, e_σ4, h⟩ := md_ob h
  refine md_pI (k := 127) cx hw hin12c rfl (by decide) rfl (List.mem_cons_of_mem _ mm_538) rfl e_σ4 dX12_choose_40 (fun H locs hw => ?_)
  refine lv_aload_n cx.1 cx.2.1 dX12_choose_43 rfl (lv_at hl 0 rfl) ?_
  refine lv_iconst (v := 1) cx.1 cx.2.1 dX12_choose_44 (by decide) ?_
  obtain ⟨σ5, e_σ5, h⟩ := md_ob h
  refine md_pZ (k := 128) cx hw hin12c rfl (by decide) rfl (List.mem_cons_of_mem _ mm_569) rfl (by decide) e_σ5 dX12_choose_45 (fun H locs hw => ?_)
  refine lv_aload_n cx.1 cx.2.1 dX12_choose_48 rfl (lv_at hl 0 rfl) ?_
  refine md_gR (k := 107) cx hw hin12c (by decide) (by decide) (List.mem_cons_of_mem _ mm_603) dX12_choose_49 ?_
  refine lv_iload_n cx.1 cx.2.1 dX12_choose_52 rfl (lv_at hl 1 rfl) ?_
  obtain ⟨v6, e_v6, h⟩ := md_ob h
  refine md_lI (k := 107) hj cx hw (by decide) rfl rfl rfl e_v6 dX12_choose_53 ?_
  refine lv_istore (lv' := [(4, .int v6), (0, .ref (ad 137)), (3, .int q3.2.2)]) cx.1 cx.2.1 dX12_choose_54 hl (by decide) rfl (fun ls hl => ?_)
  refine lv_iload cx.1 cx.2.1 dX12_choose_56 (lv_at hl 0 rfl) ?_
  refine lv_iconst (v := (-1)) cx.1 cx.2.1 dX12_choose_58 (by decide) ?_
  refine lv_icmp_eq (tgt := 75) cx.1 cx.2.1 dX12_choose_59 (by decide) (fun c59 => ?_) (fun c59 => ?_)
  · have h := md_ip c59 h
    exact hp_vret cx hw (md_retv h) dX12_choose_75
  · have h := md_in c59 h
    refine lv_aload_n cx.1 cx.2.1 dX12_choose_62 rfl (lv_at hl 1 rfl) ?_
    refine md_gR (k := 107) cx hw hin12c (by decide) (by decide) (List.mem_cons_of_mem _ mm_603) dX12_choose_63 ?_
    refine lv_iload_n cx.1 cx.2.1 dX12_choose_66 rfl (lv_at hl 2 rfl) ?_
    refine lv_iconst (v := (-1)) cx.1 cx.2.1 dX12_choose_67 (by decide) ?_
    obtain ⟨σ7, e_σ7, h⟩ := md_ob h
    refine md_sI (k := 107) hj cx hw (by decide) rfl rfl rfl e_σ7 dX12_choose_68 (fun H locs hw => ?_)
    refine lv_aload_n cx.1 cx.2.1 dX12_choose_69 rfl (lv_at hl 1 rfl) ?_
    refine lv_iload cx.1 cx.2.1 dX12_choose_70 (lv_at hl 0 rfl) ?_
    obtain ⟨p8, e_p8, h⟩ := md_ob h
    refine hp_callVv (As := [.int v6]) (rest := []) cx hw (km_X12_hasWaited l D cA E _ ad hj hE n σ7 v6 p8 e_p8) (cwV 1 cx.2.2.2.2.2.1 (md_giV mm_608 mm_609 mm_610 mm_5 mm_611) rfl rfl rfl hd_X12_hasWaited ⟨Nat.le_of_ble_eq_true rfl, Nat.le_of_ble_eq_true rfl⟩) md_at0 rfl rfl hl.1 rfl (Nat.le_of_ble_eq_true rfl) dX12_choose_72 ⟨Nat.le_refl _, Nat.le_refl _⟩ (fun u H locs hp hw => ?_)
    obtain rfl := hp
    exact hp_vret cx hw (md_retv h) dX12_choose_75
set_option maxHeartbeats 4000000 in
set_option maxRecDepth 100000 in
theorem km_X12_going (l : Launch) (D : va_G) (cA : Nat → ClassId) (E : hp_N) (sz : Nat) (ad : Nat → Nat) (hj : md_inj ad) (hE : md_E E) (n : Nat) (σ0 : md_S) (p : (Int32 × md_S)) (h : f_X12_going n σ0 = some p) : Met l yX12_going (Cond.code yX12_going cX12_going 3 (some .int) :: v_MOD) ({ frames := 0, cells := 0, slots := 0, locals := 0 }) (hp_Pc D vwCl (hp_Tl cA) E sz (md_pic cA ad σ0) [.ref (ad 137)]) (hp_Qi D vwCl (hp_Tl cA) sz (md_pic cA ad σ0) (fun r u => r = p.1 ∧ u = md_pic cA ad p.2)) 0 0 (hp_A (md_pic cA ad σ0) sz) := by
  refine hp_ofW (cc := cX12_going) (maxL := 3) (ret := (some .int)) (by decide) rfl (Nat.le_of_ble_eq_true rfl) ?_
  intro pp ee ss mm bb mt cd ls cx hsz hw hl
  have hl : lv_has ls 3 [(0, .ref (ad 137))] := hl
  refine lv_iconst (v := 0) cx.1 cx.2.1 dX12_going_0 (by decide) ?_
  refine lv_istore_n (lv' := [(1, .int 0), (0, .ref (ad 137))]) cx.1 cx.2.1 dX12_going_1 rfl hl (by decide) rfl (fun ls hl => ?_)
  refine lv_iconst (v := 0) cx.1 cx.2.1 dX12_going_2 (by decide) ?_
  refine lv_istore_n (lv' := [(2, .int 0), (1, .int 0), (0, .ref (ad 137))]) cx.1 cx.2.1 dX12_going_3 rfl hl (by decide) rfl (fun ls hl => ?_)
  have L4 : ∀ (j : Nat) (σ : md_S) (l1 : Int32) (l2 : Int32) (q : (md_S × Int32 × Int32)) (H : Heap) (locs : List Loc) (ls : Array Slot), f_X12_going_L4 n j σ l1 l2 = some q → hp_w D vwCl (hp_Tl cA) E (hp_A (md_pic cA ad σ0) sz) ss H locs (md_pic cA ad σ) → lv_has ls 3 [(0, .ref (ad 137)), (1, .int l1), (2, .int l2)] → (∀ (H : Heap) (locs : List Loc) (ls : Array Slot), hp_w D vwCl (hp_Tl cA) E (hp_A (md_pic cA ad σ0) sz) ss H locs (md_pic cA ad q.1) → lv_has ls 3 [(1, .int q.2.1)] → W pp l ee ({ frames := 0, cells := 0, slots := 0, locals := 0 }) ss mm [.ref (ad 137)].toArray bb mt cd H locs 0 0 (MQ bb (hp_Qi D vwCl (hp_Tl cA) sz (md_pic cA ad σ0) (fun r u => r = p.1 ∧ u = md_pic cA ad p.2)) [.ref (ad 137)].toArray ss 0 0 (hp_A (md_pic cA ad σ0) sz)) (F0 mm 35 ls [])) → W pp l ee ({ frames := 0, cells := 0, slots := 0, locals := 0 }) ss mm [.ref (ad 137)].toArray bb mt cd H locs 0 0 (MQ bb (hp_Qi D vwCl (hp_Tl cA) sz (md_pic cA ad σ0) (fun r u => r = p.1 ∧ u = md_pic cA ad p.2)) [.ref (ad 137)].toArray ss 0 0 (hp_A (md_pic cA ad σ0) sz)) (F0 mm 4 ls []) := by
    intro j
    induction j with
    | zero => intro σ l1 l2 q H locs ls h; exact nomatch h
    | succ j ih =>
      intro σ l1 l2 q H locs ls h hw hl K
      have J27 : ∀ (σ : md_S) (l2 : Int32) (t0 : Int32) (t1 : Int32) (H : Heap) (locs : List Loc) (ls : Array Slot), f_X12_going_J27 n (f_X12_going_L4 n j) σ l2 t0 t1 = some q → hp_w D vwCl (hp_Tl cA) E (hp_A (md_pic cA ad σ0) sz) ss H locs (md_pic cA ad σ) → lv_has ls 3 [(0, .ref (ad 137)), (2, .int l2)] → W pp l ee ({ frames := 0, cells := 0, slots := 0, locals := 0 }) ss mm [.ref (ad 137)].toArray bb mt cd H locs 0 0 (MQ bb (hp_Qi D vwCl (hp_Tl cA) sz (md_pic cA ad σ0) (fun r u => r = p.1 ∧ u = md_pic cA ad p.2)) [.ref (ad 137)].toArray ss 0 0 (hp_A (md_pic cA ad σ0) sz)) (F0 mm 27 ls [.int t0, .int t1]) := by
        intro σ l2 t0 t1 H locs ls h hw hl
        refine lv_iadd cx.1 cx.2.1 dX12_going_27 ?_
        refine lv_istore_n (lv' := [(1, .int (t1 + t0)), (0, .ref (ad 137)), (2, .int l2)]) cx.1 cx.2.1 dX12_going_28 rfl hl (by decide) rfl (fun ls hl => ?_)
        refine lv_iinc (v := (l2 + 1)) (lv' := [(2, .int (l2 + 1)), (1, .int (t1 + t0)), (0, .ref (ad 137))]) cx.1 cx.2.1 dX12_going_29 hl (k := 2) rfl rfl (by decide) rfl (fun ls hl => ?_)
        refine lv_goto (tgt := 4) cx.1 cx.2.1 dX12_going_32 (by decide) ?_
        exact ih σ ((t1 + t0)) ((l2 + 1)) q _ _ _ h hw (lv_sub hl [2, 1, 0] rfl) K
      refine lv_iload_n cx.1 cx.2.1 dX12_going_4 rfl (lv_at hl 2 rfl) ?_
      refine lv_aload_n cx.1 cx.2.1 dX12_going_5 rfl (lv_at hl 0 rfl) ?_
      refine md_gI (k := 105) cx hw hin12c rfl (by decide) (List.mem_cons_of_mem _ mm_612) dX12_going_6 ?_
      refine lv_icmp_ge (tgt := 35) cx.1 cx.2.1 dX12_going_9 (by decide) (fun c9 => ?_) (fun c9 => ?_)
      · have h := md_ip c9 h
        obtain rfl := Option.some.inj h
        exact K _ _ _ hw (lv_sub hl [1] rfl)
      · have h := md_in c9 h
        refine lv_iload_n cx.1 cx.2.1 dX12_going_12 rfl (lv_at hl 1 rfl) ?_
        refine lv_aload_n cx.1 cx.2.1 dX12_going_13 rfl (lv_at hl 0 rfl) ?_
        refine md_gR (k := 106) cx hw hin12c (by decide) (by decide) (List.mem_cons_of_mem _ mm_562) dX12_going_14 ?_
        refine lv_iload_n cx.1 cx.2.1 dX12_going_17 rfl (lv_at hl 2 rfl) ?_
        obtain ⟨v1, e_v1, h⟩ := md_ob h
        refine md_lI (k := 106) hj cx hw (by decide) rfl rfl rfl e_v1 dX12_going_18 ?_
        refine lv_if_ne (tgt := 26) cx.1 cx.2.1 dX12_going_19 (by decide) (fun c19 => ?_) (fun c19 => ?_)
        · have h := md_in c19 h
          refine lv_iconst (v := 0) cx.1 cx.2.1 dX12_going_26 (by decide) ?_
          exact J27 σ l2 0 l1 _ _ _ h hw (lv_sub hl [0, 2] rfl)
        · have h := md_ip c19 h
          refine lv_iconst (v := 1) cx.1 cx.2.1 dX12_going_22 (by decide) ?_
          refine lv_goto (tgt := 27) cx.1 cx.2.1 dX12_going_23 (by decide) ?_
          exact J27 σ l2 1 l1 _ _ _ h hw (lv_sub hl [0, 2] rfl)
  obtain ⟨q2, e_q2, h⟩ := md_ob h
  refine L4 n σ0 0 0 q2 _ _ _ e_q2 hw (lv_sub hl [2, 1, 0] rfl) (fun H locs ls hw hl => ?_)
  refine lv_iload_n cx.1 cx.2.1 dX12_going_35 rfl (lv_at hl 0 rfl) ?_
  exact hp_iret cx hw (md_ret h) dX12_going_36
set_option maxHeartbeats 4000000 in
set_option maxRecDepth 100000 in
theorem km_X12_newThread (l : Launch) (D : va_G) (cA : Nat → ClassId) (E : hp_N) (sz : Nat) (ad : Nat → Nat) (hj : md_inj ad) (hE : md_E E) (n : Nat) (σ0 : md_S) (p : (Int32 × md_S)) (h : f_X12_newThread n σ0 = some p) : Met l yX12_newThread (Cond.code yX12_newThread cX12_newThread 2 (some .int) :: v_MOD) ({ frames := 0, cells := 0, slots := 0, locals := 0 }) (hp_Pc D vwCl (hp_Tl cA) E sz (md_pic cA ad σ0) [.ref (ad 137)]) (hp_Qi D vwCl (hp_Tl cA) sz (md_pic cA ad σ0) (fun r u => r = p.1 ∧ u = md_pic cA ad p.2)) 0 0 (hp_A (md_pic cA ad σ0) sz) := by
  refine hp_ofW (cc := cX12_newThread) (maxL := 2) (ret := (some .int)) (by decide) rfl (Nat.le_of_ble_eq_true rfl) ?_
  intro pp ee ss mm bb mt cd ls cx hsz hw hl
  have hl : lv_has ls 2 [(0, .ref (ad 137))] := hl
  refine lv_aload_n cx.1 cx.2.1 dX12_newThread_0 rfl (lv_at hl 0 rfl) ?_
  refine md_gI (k := 105) cx hw hin12c rfl (by decide) (List.mem_cons_of_mem _ mm_612) dX12_newThread_1 ?_
  refine lv_istore_n (lv' := [(1, .int (mI σ0 105)), (0, .ref (ad 137))]) cx.1 cx.2.1 dX12_newThread_4 rfl hl (by decide) rfl (fun ls hl => ?_)
  refine lv_aload_n cx.1 cx.2.1 dX12_newThread_5 rfl (lv_at hl 1 rfl) ?_
  refine lv_dup cx.1 cx.2.1 dX12_newThread_6 rfl ?_
  refine md_gI (k := 105) cx hw hin12c rfl (by decide) (List.mem_cons_of_mem _ mm_612) dX12_newThread_7 ?_
  refine lv_iconst (v := 1) cx.1 cx.2.1 dX12_newThread_10 (by decide) ?_
  refine lv_iadd cx.1 cx.2.1 dX12_newThread_11 ?_
  obtain ⟨σ1, e_σ1, h⟩ := md_ob h
  refine md_pI (k := 105) cx hw hin12c rfl (by decide) rfl (List.mem_cons_of_mem _ mm_612) rfl e_σ1 dX12_newThread_12 (fun H locs hw => ?_)
  refine lv_aload_n cx.1 cx.2.1 dX12_newThread_15 rfl (lv_at hl 1 rfl) ?_
  refine md_gR (k := 106) cx hw hin12c (by decide) (by decide) (List.mem_cons_of_mem _ mm_562) dX12_newThread_16 ?_
  refine lv_iload_n cx.1 cx.2.1 dX12_newThread_19 rfl (lv_at hl 0 rfl) ?_
  refine lv_iconst (v := 0) cx.1 cx.2.1 dX12_newThread_20 (by decide) ?_
  obtain ⟨σ2, e_σ2, h⟩ := md_ob h
  refine md_sI (k := 106) hj cx hw (by decide) rfl rfl rfl e_σ2 dX12_newThread_21 (fun H locs hw => ?_)
  refine lv_aload_n cx.1 cx.2.1 dX12_newThread_22 rfl (lv_at hl 1 rfl) ?_
  refine md_gR (k := 107) cx hw hin12c (by decide) (by decide) (List.mem_cons_of_mem _ mm_603) dX12_newThread_23 ?_
  refine lv_iload_n cx.1 cx.2.1 dX12_newThread_26 rfl (lv_at hl 0 rfl) ?_
  refine lv_iconst (v := (-1)) cx.1 cx.2.1 dX12_newThread_27 (by decide) ?_
  obtain ⟨σ3, e_σ3, h⟩ := md_ob h
  refine md_sI (k := 107) hj cx hw (by decide) rfl rfl rfl e_σ3 dX12_newThread_28 (fun H locs hw => ?_)
  refine lv_aload_n cx.1 cx.2.1 dX12_newThread_29 rfl (lv_at hl 1 rfl) ?_
  refine md_gR (k := 108) cx hw hin12c (by decide) (by decide) (List.mem_cons_of_mem _ mm_587) dX12_newThread_30 ?_
  refine lv_iload_n cx.1 cx.2.1 dX12_newThread_33 rfl (lv_at hl 0 rfl) ?_
  refine lv_iconst (v := 0) cx.1 cx.2.1 dX12_newThread_34 (by decide) ?_
  obtain ⟨σ4, e_σ4, h⟩ := md_ob h
  refine md_sI (k := 108) hj cx hw (by decide) rfl rfl rfl e_σ4 dX12_newThread_35 (fun H locs hw => ?_)
  refine lv_aload_n cx.1 cx.2.1 dX12_newThread_36 rfl (lv_at hl 1 rfl) ?_
  refine md_gR (k := 110) cx hw hin12c (by decide) (by decide) (List.mem_cons_of_mem _ mm_563) dX12_newThread_37 ?_
  refine lv_iload_n cx.1 cx.2.1 dX12_newThread_40 rfl (lv_at hl 0 rfl) ?_
  refine lv_iconst (v := 0) cx.1 cx.2.1 dX12_newThread_41 (by decide) ?_
  obtain ⟨σ5, e_σ5, h⟩ := md_ob h
  refine md_sI (k := 110) hj cx hw (by decide) rfl rfl rfl e_σ5 dX12_newThread_42 (fun H locs hw => ?_)
  refine lv_aload_n cx.1 cx.2.1 dX12_newThread_43 rfl (lv_at hl 1 rfl) ?_
  refine md_gR (k := 109) cx hw hin12c (by decide) (by decide) (List.mem_cons_of_mem _ mm_564) dX12_newThread_44 ?_
  refine lv_iload_n cx.1 cx.2.1 dX12_newThread_47 rfl (lv_at hl 0 rfl) ?_
  refine lv_iconst (v := (-1)) cx.1 cx.2.1 dX12_newThread_48 (by decide) ?_
  obtain ⟨σ6, e_σ6, h⟩ := md_ob h
  refine md_sI (k := 109) hj cx hw (by decide) rfl rfl rfl e_σ6 dX12_newThread_49 (fun H locs hw => ?_)
  refine lv_aload_n cx.1 cx.2.1 dX12_newThread_50 rfl (lv_at hl 1 rfl) ?_
  refine md_gR (k := 111) cx hw hin12c (by decide) (by decide) (List.mem_cons_of_mem _ mm_539) dX12_newThread_51 ?_
  refine lv_iload_n cx.1 cx.2.1 dX12_newThread_54 rfl (lv_at hl 0 rfl) ?_
  refine lv_iconst (v := 0) cx.1 cx.2.1 dX12_newThread_55 (by decide) ?_
  obtain ⟨σ7, e_σ7, h⟩ := md_ob h
  refine md_sI (k := 111) hj cx hw (by decide) rfl rfl rfl e_σ7 dX12_newThread_56 (fun H locs hw => ?_)
  refine lv_aload_n cx.1 cx.2.1 dX12_newThread_57 rfl (lv_at hl 1 rfl) ?_
  refine md_gR (k := 117) cx hw hin12c (by decide) (by decide) (List.mem_cons_of_mem _ mm_549) dX12_newThread_58 ?_
  refine lv_iload_n cx.1 cx.2.1 dX12_newThread_61 rfl (lv_at hl 0 rfl) ?_
  refine lv_iconst (v := 0) cx.1 cx.2.1 dX12_newThread_62 (by decide) ?_
  obtain ⟨σ8, e_σ8, h⟩ := md_ob h
  refine md_sI (k := 117) hj cx hw (by decide) rfl rfl rfl e_σ8 dX12_newThread_63 (fun H locs hw => ?_)
  refine lv_aload_n cx.1 cx.2.1 dX12_newThread_64 rfl (lv_at hl 1 rfl) ?_
  refine md_gR (k := 120) cx hw hin12c (by decide) (by decide) (List.mem_cons_of_mem _ mm_540) dX12_newThread_65 ?_
  refine lv_iload_n cx.1 cx.2.1 dX12_newThread_68 rfl (lv_at hl 0 rfl) ?_
  refine lv_iconst (v := 0) cx.1 cx.2.1 dX12_newThread_69 (by decide) ?_
  obtain ⟨σ9, e_σ9, h⟩ := md_ob h
  refine md_sI (k := 120) hj cx hw (by decide) rfl rfl rfl e_σ9 dX12_newThread_70 (fun H locs hw => ?_)
  refine lv_aload_n cx.1 cx.2.1 dX12_newThread_71 rfl (lv_at hl 1 rfl) ?_
  refine md_gR (k := 123) cx hw hin12c (by decide) (by decide) (List.mem_cons_of_mem _ mm_546) dX12_newThread_72 ?_
  refine lv_iload_n cx.1 cx.2.1 dX12_newThread_75 rfl (lv_at hl 0 rfl) ?_
  refine lv_iconst (v := 0) cx.1 cx.2.1 dX12_newThread_76 (by decide) ?_
  obtain ⟨σ10, e_σ10, h⟩ := md_ob h
  refine md_sI (k := 123) hj cx hw (by decide) rfl rfl rfl e_σ10 dX12_newThread_77 (fun H locs hw => ?_)
  refine lv_iload_n cx.1 cx.2.1 dX12_newThread_78 rfl (lv_at hl 0 rfl) ?_
  exact hp_iret cx hw (md_ret h) dX12_newThread_79
set_option maxHeartbeats 4000000 in
set_option maxRecDepth 100000 in
theorem km_X12_ready (l : Launch) (D : va_G) (cA : Nat → ClassId) (E : hp_N) (sz : Nat) (ad : Nat → Nat) (hj : md_inj ad) (hE : md_E E) (n : Nat) (σ0 : md_S) (p : (Int32 × md_S)) (h : f_X12_ready n σ0 = some p) : Met l yX12_ready (Cond.code yX12_ready cX12_ready 3 (some .int) :: v_MOD) ({ frames := 1, cells := 0, slots := 0, locals := 21 }) (hp_Pc D vwCl (hp_Tl cA) E sz (md_pic cA ad σ0) [.ref (ad 137)]) (hp_Qi D vwCl (hp_Tl cA) sz (md_pic cA ad σ0) (fun r u => r = p.1 ∧ u = md_pic cA ad p.2)) 0 0 (hp_A (md_pic cA ad σ0) sz) := by
  refine hp_ofW (cc := cX12_ready) (maxL := 3) (ret := (some .int)) (by decide) rfl (Nat.le_of_ble_eq_true rfl) ?_
  intro pp ee ss mm bb mt cd ls cx hsz hw hl
  have hl : lv_has ls 3 [(0, .ref (ad 137))] := hl
  refine lv_iconst (v := 0) cx.1 cx.2.1 dX12_ready_0 (by decide) ?_
  refine lv_istore_n (lv' := [(1, .int 0), (0, .ref (ad 137))]) cx.1 cx.2.1 dX12_ready_1 rfl hl (by decide) rfl (fun ls hl => ?_)
  refine lv_iconst (v := 0) cx.1 cx.2.1 dX12_ready_2 (by decide) ?_
  refine lv_istore_n (lv' := [(2, .int 0), (1, .int 0), (0, .ref (ad 137))]) cx.1 cx.2.1 dX12_ready_3 rfl hl (by decide) rfl (fun ls hl => ?_)
  have L4 : ∀ (j : Nat) (σ : md_S) (l1 : Int32) (l2 : Int32) (q : (md_S × Int32 × Int32)) (H : Heap) (locs : List Loc) (ls : Array Slot), f_X12_ready_L4 n j σ l1 l2 = some q → hp_w D vwCl (hp_Tl cA) E (hp_A (md_pic cA ad σ0) sz) ss H locs (md_pic cA ad σ) → lv_has ls 3 [(0, .ref (ad 137)), (1, .int l1), (2, .int l2)] → (∀ (H : Heap) (locs : List Loc) (ls : Array Slot), hp_w D vwCl (hp_Tl cA) E (hp_A (md_pic cA ad σ0) sz) ss H locs (md_pic cA ad q.1) → lv_has ls 3 [(1, .int q.2.1)] → W pp l ee ({ frames := 1, cells := 0, slots := 0, locals := 21 }) ss mm [.ref (ad 137)].toArray bb mt cd H locs 0 0 (MQ bb (hp_Qi D vwCl (hp_Tl cA) sz (md_pic cA ad σ0) (fun r u => r = p.1 ∧ u = md_pic cA ad p.2)) [.ref (ad 137)].toArray ss 0 0 (hp_A (md_pic cA ad σ0) sz)) (F0 mm 34 ls [])) → W pp l ee ({ frames := 1, cells := 0, slots := 0, locals := 21 }) ss mm [.ref (ad 137)].toArray bb mt cd H locs 0 0 (MQ bb (hp_Qi D vwCl (hp_Tl cA) sz (md_pic cA ad σ0) (fun r u => r = p.1 ∧ u = md_pic cA ad p.2)) [.ref (ad 137)].toArray ss 0 0 (hp_A (md_pic cA ad σ0) sz)) (F0 mm 4 ls []) := by
    intro j
    induction j with
    | zero => intro σ l1 l2 q H locs ls h; exact nomatch h
    | succ j ih =>
      intro σ l1 l2 q H locs ls h hw hl K
      have J26 : ∀ (σ : md_S) (l2 : Int32) (t0 : Int32) (t1 : Int32) (H : Heap) (locs : List Loc) (ls : Array Slot), f_X12_ready_J26 n (f_X12_ready_L4 n j) σ l2 t0 t1 = some q → hp_w D vwCl (hp_Tl cA) E (hp_A (md_pic cA ad σ0) sz) ss H locs (md_pic cA ad σ) → lv_has ls 3 [(0, .ref (ad 137)), (2, .int l2)] → W pp l ee ({ frames := 1, cells := 0, slots := 0, locals := 21 }) ss mm [.ref (ad 137)].toArray bb mt cd H locs 0 0 (MQ bb (hp_Qi D vwCl (hp_Tl cA) sz (md_pic cA ad σ0) (fun r u => r = p.1 ∧ u = md_pic cA ad p.2)) [.ref (ad 137)].toArray ss 0 0 (hp_A (md_pic cA ad σ0) sz)) (F0 mm 26 ls [.int t0, .int t1]) := by
        intro σ l2 t0 t1 H locs ls h hw hl
        refine lv_iadd cx.1 cx.2.1 dX12_ready_26 ?_
        refine lv_istore_n (lv' := [(1, .int (t1 + t0)), (0, .ref (ad 137)), (2, .int l2)]) cx.1 cx.2.1 dX12_ready_27 rfl hl (by decide) rfl (fun ls hl => ?_)
        refine lv_iinc (v := (l2 + 1)) (lv' := [(2, .int (l2 + 1)), (1, .int (t1 + t0)), (0, .ref (ad 137))]) cx.1 cx.2.1 dX12_ready_28 hl (k := 2) rfl rfl (by decide) rfl (fun ls hl => ?_)
        refine lv_goto (tgt := 4) cx.1 cx.2.1 dX12_ready_31 (by decide) ?_
        exact ih σ ((t1 + t0)) ((l2 + 1)) q _ _ _ h hw (lv_sub hl [2, 1, 0] rfl) K
      refine lv_iload_n cx.1 cx.2.1 dX12_ready_4 rfl (lv_at hl 2 rfl) ?_
      refine lv_aload_n cx.1 cx.2.1 dX12_ready_5 rfl (lv_at hl 0 rfl) ?_
      refine md_gI (k := 105) cx hw hin12c rfl (by decide) (List.mem_cons_of_mem _ mm_612) dX12_ready_6 ?_
      refine lv_icmp_ge (tgt := 34) cx.1 cx.2.1 dX12_ready_9 (by decide) (fun c9 => ?_) (fun c9 => ?_)
      · have h := md_ip c9 h
        obtain rfl := Option.some.inj h
        exact K _ _ _ hw (lv_sub hl [1] rfl)
      · have h := md_in c9 h
        refine lv_iload_n cx.1 cx.2.1 dX12_ready_12 rfl (lv_at hl 1 rfl) ?_
        refine lv_aload_n cx.1 cx.2.1 dX12_ready_13 rfl (lv_at hl 0 rfl) ?_
        refine lv_iload_n cx.1 cx.2.1 dX12_ready_14 rfl (lv_at hl 2 rfl) ?_
        obtain ⟨p1, e_p1, h⟩ := md_ob h
        refine hp_callVi (As := [.int l2]) (rest := [.int l1]) cx hw (km_X12_canGo l D cA E _ ad hj hE n σ l2 p1 e_p1) (cwV 1 cx.2.2.2.2.2.1 (md_giV mm_604 mm_605 mm_606 mm_5 mm_607) rfl rfl rfl hd_X12_canGo ⟨Nat.le_of_ble_eq_true rfl, Nat.le_of_ble_eq_true rfl⟩) md_at0 rfl rfl hl.1 rfl (Nat.le_of_ble_eq_true rfl) dX12_ready_15 ⟨Nat.le_refl _, Nat.le_refl _⟩ (fun r u H locs hp hw => ?_)
        obtain ⟨rfl, rfl⟩ := hp
        refine lv_if_eq (tgt := 25) cx.1 cx.2.1 dX12_ready_18 (by decide) (fun c18 => ?_) (fun c18 => ?_)
        · have h := md_ip c18 h
          refine lv_iconst (v := 0) cx.1 cx.2.1 dX12_ready_25 (by decide) ?_
          exact J26 p1.2 l2 0 l1 _ _ _ h hw (lv_sub hl [0, 2] rfl)
        · have h := md_in c18 h
          refine lv_iconst (v := 1) cx.1 cx.2.1 dX12_ready_21 (by decide) ?_
          refine lv_goto (tgt := 26) cx.1 cx.2.1 dX12_ready_22 (by decide) ?_
          exact J26 p1.2 l2 1 l1 _ _ _ h hw (lv_sub hl [0, 2] rfl)
  obtain ⟨q2, e_q2, h⟩ := md_ob h
  refine L4 n σ0 0 0 q2 _ _ _ e_q2 hw (lv_sub hl [2, 1, 0] rfl) (fun H locs ls hw hl => ?_)
  refine lv_iload_n cx.1 cx.2.1 dX12_ready_34 rfl (lv_at hl 0 rfl) ?_
  exact hp_iret cx hw (md_ret h) dX12_ready_35
set_option maxHeartbeats 4000000 in
set_option maxRecDepth 100000 in
theorem km_X12_stepBack (l : Launch) (D : va_G) (cA : Nat → ClassId) (E : hp_N) (sz : Nat) (ad : Nat → Nat) (hj : md_inj ad) (hE : md_E E) (n : Nat) (σ0 : md_S) (a1 : Int32) (p : (Int32 × md_S)) (h : f_X12_stepBack n σ0 a1 = some p) : Met l yX12_stepBack (Cond.code yX12_stepBack cX12_stepBack 2 none :: v_MOD) ({ frames := 1, cells := 0, slots := 0, locals := 20 }) (hp_Pc D vwCl (hp_Tl cA) E sz (md_pic cA ad σ0) [.ref (ad 137), .int a1]) (hp_Qv D vwCl (hp_Tl cA) sz (md_pic cA ad σ0) (fun u => u = md_pic cA ad p.2)) 0 0 (hp_A (md_pic cA ad σ0) sz) := by
  refine hp_ofW (cc := cX12_stepBack) (maxL := 2) (ret := none) (by decide) rfl (Nat.le_of_ble_eq_true rfl) ?_
  intro pp ee ss mm bb mt cd ls cx hsz hw hl
  have hl : lv_has ls 2 [(0, .ref (ad 137)), (1, .int a1)] := hl
  refine lv_aload_n cx.1 cx.2.1 dX12_stepBack_0 rfl (lv_at hl 0 rfl) ?_
  refine md_gR (k := 111) cx hw hin12c (by decide) (by decide) (List.mem_cons_of_mem _ mm_539) dX12_stepBack_1 ?_
  refine lv_aload_n cx.1 cx.2.1 dX12_stepBack_4 rfl (lv_at hl 0 rfl) ?_
  refine md_gI (k := 127) cx hw hin12c rfl (by decide) (List.mem_cons_of_mem _ mm_538) dX12_stepBack_5 ?_
  refine lv_dup2_11 cx.1 cx.2.1 dX12_stepBack_8 rfl rfl ?_
  obtain ⟨v1, e_v1, h⟩ := md_ob h
  refine md_lI (k := 111) hj cx hw (by decide) rfl rfl rfl e_v1 dX12_stepBack_9 ?_
  refine lv_iconst (v := 1) cx.1 cx.2.1 dX12_stepBack_10 (by decide) ?_
  refine lv_isub cx.1 cx.2.1 dX12_stepBack_11 ?_
  obtain ⟨σ2, e_σ2, h⟩ := md_ob h
  refine md_sI (k := 111) hj cx hw (by decide) rfl rfl rfl e_σ2 dX12_stepBack_12 (fun H locs hw => ?_)
  refine lv_aload_n cx.1 cx.2.1 dX12_stepBack_13 rfl (lv_at hl 0 rfl) ?_
  refine md_gR (k := 117) cx hw hin12c (by decide) (by decide) (List.mem_cons_of_mem _ mm_549) dX12_stepBack_14 ?_
  refine lv_aload_n cx.1 cx.2.1 dX12_stepBack_17 rfl (lv_at hl 0 rfl) ?_
  refine md_gI (k := 127) cx hw hin12c rfl (by decide) (List.mem_cons_of_mem _ mm_538) dX12_stepBack_18 ?_
  refine lv_aload_n cx.1 cx.2.1 dX12_stepBack_21 rfl (lv_at hl 0 rfl) ?_
  refine md_gR (k := 114) cx hw hin12c (by decide) (by decide) (List.mem_cons_of_mem _ mm_550) dX12_stepBack_22 ?_
  refine lv_iload_n cx.1 cx.2.1 dX12_stepBack_25 rfl (lv_at hl 1 rfl) ?_
  obtain ⟨v3, e_v3, h⟩ := md_ob h
  refine md_lI (k := 114) hj cx hw (by decide) rfl rfl rfl e_v3 dX12_stepBack_26 ?_
  obtain ⟨σ4, e_σ4, h⟩ := md_ob h
  refine md_sI (k := 117) hj cx hw (by decide) rfl rfl rfl e_σ4 dX12_stepBack_27 (fun H locs hw => ?_)
  refine lv_aload_n cx.1 cx.2.1 dX12_stepBack_28 rfl (lv_at hl 0 rfl) ?_
  refine md_gR (k := 111) cx hw hin12c (by decide) (by decide) (List.mem_cons_of_mem _ mm_539) dX12_stepBack_29 ?_
  refine lv_aload_n cx.1 cx.2.1 dX12_stepBack_32 rfl (lv_at hl 0 rfl) ?_
  refine md_gI (k := 127) cx hw hin12c rfl (by decide) (List.mem_cons_of_mem _ mm_538) dX12_stepBack_33 ?_
  obtain ⟨v5, e_v5, h⟩ := md_ob h
  refine md_lI (k := 111) hj cx hw (by decide) rfl rfl rfl e_v5 dX12_stepBack_36 ?_
  refine lv_if_le (tgt := 41) cx.1 cx.2.1 dX12_stepBack_37 (by decide) (fun c37 => ?_) (fun c37 => ?_)
  · have h := md_ip c37 h
    refine lv_aload_n cx.1 cx.2.1 dX12_stepBack_41 rfl (lv_at hl 0 rfl) ?_
    refine md_gR (k := 109) cx hw hin12c (by decide) (by decide) (List.mem_cons_of_mem _ mm_564) dX12_stepBack_42 ?_
    refine lv_aload_n cx.1 cx.2.1 dX12_stepBack_45 rfl (lv_at hl 0 rfl) ?_
    refine md_gI (k := 127) cx hw hin12c rfl (by decide) (List.mem_cons_of_mem _ mm_538) dX12_stepBack_46 ?_
    refine lv_aload_n cx.1 cx.2.1 dX12_stepBack_49 rfl (lv_at hl 0 rfl) ?_
    obtain ⟨p6, e_p6, h⟩ := md_ob h
    refine hp_callVi (As := []) (rest := [.int (mI σ4 127), .ref (ad 109)]) cx hw (km_X12_pop l D cA E _ ad hj hE n σ4  p6 e_p6) (cwV 0 cx.2.2.2.2.2.1 (md_giV mm_613 mm_614 mm_615 mm_5 mm_616) rfl rfl rfl hd_X12_pop ⟨Nat.le_of_ble_eq_true rfl, Nat.le_of_ble_eq_true rfl⟩) md_at0 rfl rfl hl.1 rfl (Nat.le_of_ble_eq_true rfl) dX12_stepBack_50 ⟨Nat.le_refl _, Nat.le_refl _⟩ (fun r u H locs hp hw => ?_)
    obtain ⟨rfl, rfl⟩ := hp
    obtain ⟨σ7, e_σ7, h⟩ := md_ob h
    refine md_sI (k := 109) hj cx hw (by decide) rfl rfl rfl e_σ7 dX12_stepBack_53 (fun H locs hw => ?_)
    refine lv_aload_n cx.1 cx.2.1 dX12_stepBack_54 rfl (lv_at hl 0 rfl) ?_
    refine md_gR (k := 110) cx hw hin12c (by decide) (by decide) (List.mem_cons_of_mem _ mm_563) dX12_stepBack_55 ?_
    refine lv_aload_n cx.1 cx.2.1 dX12_stepBack_58 rfl (lv_at hl 0 rfl) ?_
    refine md_gI (k := 127) cx hw hin12c rfl (by decide) (List.mem_cons_of_mem _ mm_538) dX12_stepBack_59 ?_
    refine lv_aload_n cx.1 cx.2.1 dX12_stepBack_62 rfl (lv_at hl 0 rfl) ?_
    refine md_gI (k := 135) cx hw hin12c rfl (by decide) (List.mem_cons_of_mem _ mm_543) dX12_stepBack_63 ?_
    obtain ⟨σ8, e_σ8, h⟩ := md_ob h
    refine md_sI (k := 110) hj cx hw (by decide) rfl rfl rfl e_σ8 dX12_stepBack_66 (fun H locs hw => ?_)
    refine lv_aload_n cx.1 cx.2.1 dX12_stepBack_67 rfl (lv_at hl 0 rfl) ?_
    refine md_gR (k := 106) cx hw hin12c (by decide) (by decide) (List.mem_cons_of_mem _ mm_562) dX12_stepBack_68 ?_
    refine lv_aload_n cx.1 cx.2.1 dX12_stepBack_71 rfl (lv_at hl 0 rfl) ?_
    refine md_gI (k := 127) cx hw hin12c rfl (by decide) (List.mem_cons_of_mem _ mm_538) dX12_stepBack_72 ?_
    refine lv_iconst (v := 1) cx.1 cx.2.1 dX12_stepBack_75 (by decide) ?_
    obtain ⟨σ9, e_σ9, h⟩ := md_ob h
    refine md_sI (k := 106) hj cx hw (by decide) rfl rfl rfl e_σ9 dX12_stepBack_76 (fun H locs hw => ?_)
    refine lv_aload_n cx.1 cx.2.1 dX12_stepBack_77 rfl (lv_at hl 0 rfl) ?_
    refine lv_iconst (v := 0) cx.1 cx.2.1 dX12_stepBack_78 (by decide) ?_
    obtain ⟨σ10, e_σ10, h⟩ := md_ob h
    refine md_pZ (k := 128) cx hw hin12c rfl (by decide) rfl (List.mem_cons_of_mem _ mm_569) rfl (by decide) e_σ10 dX12_stepBack_79 (fun H locs hw => ?_)
    exact hp_vret cx hw (md_retv h) dX12_stepBack_82
  · have h := md_in c37 h
    exact hp_vret cx hw (md_retv h) dX12_stepBack_40
set_option maxHeartbeats 4000000 in
set_option maxRecDepth 100000 in
theorem km_X12_stepIf (l : Launch) (D : va_G) (cA : Nat → ClassId) (E : hp_N) (sz : Nat) (ad : Nat → Nat) (hj : md_inj ad) (hE : md_E E) (n : Nat) (σ0 : md_S) (a1 : Int32) (a2 : Int32) (p : (Int32 × md_S)) (h : f_X12_stepIf n σ0 a1 a2 = some p) : Met l yX12_stepIf (Cond.code yX12_stepIf cX12_stepIf 3 none :: v_MOD) ({ frames := 2, cells := 0, slots := 0, locals := 47 }) (hp_Pc D vwCl (hp_Tl cA) E sz (md_pic cA ad σ0) [.ref (ad 137), .int a1, .int a2]) (hp_Qv D vwCl (hp_Tl cA) sz (md_pic cA ad σ0) (fun u => u = md_pic cA ad p.2)) 0 0 (hp_A (md_pic cA ad σ0) sz) := by
  refine hp_ofW (cc := cX12_stepIf) (maxL := 3) (ret := none) (by decide) rfl (Nat.le_of_ble_eq_true rfl) ?_
  intro pp ee ss mm bb mt cd ls cx hsz hw hl
  have hl : lv_has ls 3 [(0, .ref (ad 137)), (1, .int a1), (2, .int a2)] := hl
  refine lv_aload_n cx.1 cx.2.1 dX12_stepIf_0 rfl (lv_at hl 0 rfl) ?_
  refine md_gR (k := 113) cx hw hin12c (by decide) (by decide) (List.mem_cons_of_mem _ mm_556) dX12_stepIf_1 ?_
  refine lv_iload_n cx.1 cx.2.1 dX12_stepIf_4 rfl (lv_at hl 1 rfl) ?_
  refine lv_dup2_11 cx.1 cx.2.1 dX12_stepIf_5 rfl rfl ?_
  obtain ⟨v1, e_v1, h⟩ := md_ob h
  refine md_lI (k := 113) hj cx hw (by decide) rfl rfl rfl e_v1 dX12_stepIf_6 ?_
  refine lv_iconst (v := 3) cx.1 cx.2.1 dX12_stepIf_7 (by decide) ?_
  refine lv_iadd cx.1 cx.2.1 dX12_stepIf_8 ?_
  obtain ⟨σ2, e_σ2, h⟩ := md_ob h
  refine md_sI (k := 113) hj cx hw (by decide) rfl rfl rfl e_σ2 dX12_stepIf_9 (fun H locs hw => ?_)
  refine lv_aload_n cx.1 cx.2.1 dX12_stepIf_10 rfl (lv_at hl 0 rfl) ?_
  obtain ⟨p3, e_p3, h⟩ := md_ob h
  refine hp_callVi (As := []) (rest := []) cx hw (km_X12_pop l D cA E _ ad hj hE n σ2  p3 e_p3) (cwV 0 cx.2.2.2.2.2.1 (md_giV mm_613 mm_614 mm_615 mm_5 mm_616) rfl rfl rfl hd_X12_pop ⟨Nat.le_of_ble_eq_true rfl, Nat.le_of_ble_eq_true rfl⟩) md_at0 rfl rfl hl.1 rfl (Nat.le_of_ble_eq_true rfl) dX12_stepIf_11 ⟨Nat.le_refl _, Nat.le_refl _⟩ (fun r u H locs hp hw => ?_)
  obtain ⟨rfl, rfl⟩ := hp
  refine lv_if_eq (tgt := 25) cx.1 cx.2.1 dX12_stepIf_14 (by decide) (fun c14 => ?_) (fun c14 => ?_)
  · have h := md_ip c14 h
    refine lv_aload_n cx.1 cx.2.1 dX12_stepIf_25 rfl (lv_at hl 0 rfl) ?_
    refine md_gI (k := 135) cx hw hin12c rfl (by decide) (List.mem_cons_of_mem _ mm_543) dX12_stepIf_26 ?_
    refine lv_if_ne (tgt := 53) cx.1 cx.2.1 dX12_stepIf_29 (by decide) (fun c29 => ?_) (fun c29 => ?_)
    · have h := md_in c29 h
      exact hp_vret cx hw (md_retv h) dX12_stepIf_53
    · have h := md_ip c29 h
      refine lv_aload_n cx.1 cx.2.1 dX12_stepIf_32 rfl (lv_at hl 0 rfl) ?_
      refine md_gR (k := 113) cx hw hin12c (by decide) (by decide) (List.mem_cons_of_mem _ mm_556) dX12_stepIf_33 ?_
      refine lv_iload_n cx.1 cx.2.1 dX12_stepIf_36 rfl (lv_at hl 1 rfl) ?_
      refine lv_aload_n cx.1 cx.2.1 dX12_stepIf_37 rfl (lv_at hl 0 rfl) ?_
      refine md_gR (k := 76) cx hw hin12c (by decide) (by decide) (List.mem_cons_of_mem _ mm_415) dX12_stepIf_38 ?_
      refine lv_iconst (v := 2) cx.1 cx.2.1 dX12_stepIf_41 (by decide) ?_
      refine lv_aload_n cx.1 cx.2.1 dX12_stepIf_42 rfl (lv_at hl 0 rfl) ?_
      refine md_gR (k := 112) cx hw hin12c (by decide) (by decide) (List.mem_cons_of_mem _ mm_555) dX12_stepIf_43 ?_
      refine lv_iload_n cx.1 cx.2.1 dX12_stepIf_46 rfl (lv_at hl 1 rfl) ?_
      obtain ⟨v4, e_v4, h⟩ := md_ob h
      refine md_lI (k := 112) hj cx hw (by decide) rfl rfl rfl e_v4 dX12_stepIf_47 ?_
      refine lv_imul cx.1 cx.2.1 dX12_stepIf_48 ?_
      obtain ⟨v5, e_v5, h⟩ := md_ob h
      refine md_lI (k := 76) hj cx hw (by decide) rfl rfl rfl e_v5 dX12_stepIf_49 ?_
      refine lv_iload_n cx.1 cx.2.1 dX12_stepIf_50 rfl (lv_at hl 2 rfl) ?_
      refine lv_iadd cx.1 cx.2.1 dX12_stepIf_51 ?_
      obtain ⟨σ6, e_σ6, h⟩ := md_ob h
      refine md_sI (k := 113) hj cx hw (by decide) rfl rfl rfl e_σ6 dX12_stepIf_52 (fun H locs hw => ?_)
      exact hp_vret cx hw (md_retv h) dX12_stepIf_53
  · have h := md_in c14 h
    refine lv_aload_n cx.1 cx.2.1 dX12_stepIf_17 rfl (lv_at hl 0 rfl) ?_
    refine lv_iconst (v := 5) cx.1 cx.2.1 dX12_stepIf_18 (by decide) ?_
    obtain ⟨p7, e_p7, h⟩ := md_ob h
    refine hp_callVv (As := [.int 5]) (rest := []) cx hw (km_X12_failure l D cA E _ ad hj hE n p3.2 (5 : Int32) p7 e_p7) (cwV 1 cx.2.2.2.2.2.1 (md_giV mm_575 mm_576 mm_577 mm_5 mm_578) rfl rfl rfl hd_X12_failure ⟨Nat.le_of_ble_eq_true rfl, Nat.le_of_ble_eq_true rfl⟩) md_at0 rfl rfl hl.1 rfl (Nat.le_of_ble_eq_true rfl) dX12_stepIf_19 ⟨Nat.le_refl _, Nat.le_refl _⟩ (fun u H locs hp hw => ?_)
    obtain rfl := hp
    refine lv_goto (tgt := 53) cx.1 cx.2.1 dX12_stepIf_22 (by decide) ?_
    exact hp_vret cx hw (md_retv h) dX12_stepIf_53
set_option maxHeartbeats 4000000 in
set_option maxRecDepth 100000 in
theorem km_X12_takeCaptured (l : Launch) (D : va_G) (cA : Nat → ClassId) (E : hp_N) (sz : Nat) (ad : Nat → Nat) (hj : md_inj ad) (hE : md_E E) (n : Nat) (σ0 : md_S) (a1 : Int32) (a2 : Int32) (p : (Int32 × md_S)) (h : f_X12_takeCaptured n σ0 a1 a2 = some p) : Met l yX12_takeCaptured (Cond.code yX12_takeCaptured cX12_takeCaptured 5 none :: v_MOD) ({ frames := 1, cells := 0, slots := 0, locals := 25 }) (hp_Pc D vwCl (hp_Tl cA) E sz (md_pic cA ad σ0) [.ref (ad 137), .int a1, .int a2]) (hp_Qv D vwCl (hp_Tl cA) sz (md_pic cA ad σ0) (fun u => u = md_pic cA ad p.2)) 0 0 (hp_A (md_pic cA ad σ0) sz) := by
  refine hp_ofW (cc := cX12_takeCaptured) (maxL := 5) (ret := none) (by decide) rfl (Nat.le_of_ble_eq_true rfl) ?_
  intro pp ee ss mm bb mt cd ls cx hsz hw hl
  have hl : lv_has ls 5 [(0, .ref (ad 137)), (1, .int a1), (2, .int a2)] := hl
  refine lv_bipush (v := 60) cx.1 cx.2.1 dX12_takeCaptured_0 (by decide) ?_
  refine lv_iload_n cx.1 cx.2.1 dX12_takeCaptured_2 rfl (lv_at hl 1 rfl) ?_
  refine lv_imul cx.1 cx.2.1 dX12_takeCaptured_3 ?_
  refine lv_aload_n cx.1 cx.2.1 dX12_takeCaptured_4 rfl (lv_at hl 0 rfl) ?_
  refine md_gR (k := 111) cx hw hin12c (by decide) (by decide) (List.mem_cons_of_mem _ mm_539) dX12_takeCaptured_5 ?_
  refine lv_iload_n cx.1 cx.2.1 dX12_takeCaptured_8 rfl (lv_at hl 1 rfl) ?_
  obtain ⟨v1, e_v1, h⟩ := md_ob h
  refine md_lI (k := 111) hj cx hw (by decide) rfl rfl rfl e_v1 dX12_takeCaptured_9 ?_
  refine lv_iadd cx.1 cx.2.1 dX12_takeCaptured_10 ?_
  refine lv_iconst (v := 1) cx.1 cx.2.1 dX12_takeCaptured_11 (by decide) ?_
  refine lv_isub cx.1 cx.2.1 dX12_takeCaptured_12 ?_
  refine lv_istore_n (lv' := [(3, .int ((((60 : Int32) * a1) + v1) - 1)), (0, .ref (ad 137)), (1, .int a1), (2, .int a2)]) cx.1 cx.2.1 dX12_takeCaptured_13 rfl hl (by decide) rfl (fun ls hl => ?_)
  refine lv_iconst (v := 0) cx.1 cx.2.1 dX12_takeCaptured_14 (by decide) ?_
  refine lv_istore (lv' := [(4, .int 0), (3, .int ((((60 : Int32) * a1) + v1) - 1)), (0, .ref (ad 137)), (1, .int a1), (2, .int a2)]) cx.1 cx.2.1 dX12_takeCaptured_15 hl (by decide) rfl (fun ls hl => ?_)
  have L17 : ∀ (j : Nat) (σ : md_S) (l1 : Int32) (l2 : Int32) (l3 : Int32) (l4 : Int32) (q : (md_S × Int32)) (H : Heap) (locs : List Loc) (ls : Array Slot), f_X12_takeCaptured_L17 n l1 l2 l3 j σ l4 = some q → hp_w D vwCl (hp_Tl cA) E (hp_A (md_pic cA ad σ0) sz) ss H locs (md_pic cA ad σ) → lv_has ls 5 [(0, .ref (ad 137)), (1, .int l1), (2, .int l2), (3, .int l3), (4, .int l4)] → (∀ (H : Heap) (locs : List Loc) (ls : Array Slot), hp_w D vwCl (hp_Tl cA) E (hp_A (md_pic cA ad σ0) sz) ss H locs (md_pic cA ad q.1) → lv_has ls 5 [] → W pp l ee ({ frames := 1, cells := 0, slots := 0, locals := 25 }) ss mm [.ref (ad 137), .int a1, .int a2].toArray bb mt cd H locs 0 0 (MQ bb (hp_Qv D vwCl (hp_Tl cA) sz (md_pic cA ad σ0) (fun u => u = md_pic cA ad p.2)) [.ref (ad 137), .int a1, .int a2].toArray ss 0 0 (hp_A (md_pic cA ad σ0) sz)) (F0 mm 75 ls [])) → W pp l ee ({ frames := 1, cells := 0, slots := 0, locals := 25 }) ss mm [.ref (ad 137), .int a1, .int a2].toArray bb mt cd H locs 0 0 (MQ bb (hp_Qv D vwCl (hp_Tl cA) sz (md_pic cA ad σ0) (fun u => u = md_pic cA ad p.2)) [.ref (ad 137), .int a1, .int a2].toArray ss 0 0 (hp_A (md_pic cA ad σ0) sz)) (F0 mm 17 ls []) := by
    intro j
    induction j with
    | zero => intro σ l1 l2 l3 l4 q H locs ls h; exact nomatch h
    | succ j ih =>
      intro σ l1 l2 l3 l4 q H locs ls h hw hl K
      refine lv_iload cx.1 cx.2.1 dX12_takeCaptured_17 (lv_at hl 4 rfl) ?_
      refine lv_aload_n cx.1 cx.2.1 dX12_takeCaptured_19 rfl (lv_at hl 0 rfl) ?_
      refine md_gR (k := 44) cx hw hin12c (by decide) (by decide) (List.mem_cons_of_mem _ mm_246) dX12_takeCaptured_20 ?_
      refine lv_aload_n cx.1 cx.2.1 dX12_takeCaptured_23 rfl (lv_at hl 0 rfl) ?_
      refine md_gR (k := 96) cx hw hin12c (by decide) (by decide) (List.mem_cons_of_mem _ mm_593) dX12_takeCaptured_24 ?_
      refine lv_iload_n cx.1 cx.2.1 dX12_takeCaptured_27 rfl (lv_at hl 2 rfl) ?_
      obtain ⟨v2, e_v2, h⟩ := md_ob h
      refine md_lI (k := 96) hj cx hw (by decide) rfl rfl rfl e_v2 dX12_takeCaptured_28 ?_
      obtain ⟨v3, e_v3, h⟩ := md_ob h
      refine md_lI (k := 44) hj cx hw (by decide) rfl rfl rfl e_v3 dX12_takeCaptured_29 ?_
      refine lv_icmp_ge (tgt := 75) cx.1 cx.2.1 dX12_takeCaptured_30 (by decide) (fun c30 => ?_) (fun c30 => ?_)
      · have h := md_ip c30 h
        obtain rfl := Option.some.inj h
        exact K _ _ _ hw (lv_sub hl [] rfl)
      · have h := md_in c30 h
        refine lv_aload_n cx.1 cx.2.1 dX12_takeCaptured_33 rfl (lv_at hl 0 rfl) ?_
        refine lv_iload_n cx.1 cx.2.1 dX12_takeCaptured_34 rfl (lv_at hl 1 rfl) ?_
        refine lv_iload_n cx.1 cx.2.1 dX12_takeCaptured_35 rfl (lv_at hl 3 rfl) ?_
        refine lv_iload cx.1 cx.2.1 dX12_takeCaptured_36 (lv_at hl 4 rfl) ?_
        refine lv_aload_n cx.1 cx.2.1 dX12_takeCaptured_38 rfl (lv_at hl 0 rfl) ?_
        refine md_gR (k := 99) cx hw hin12c (by decide) (by decide) (List.mem_cons_of_mem _ mm_597) dX12_takeCaptured_39 ?_
        refine lv_aload_n cx.1 cx.2.1 dX12_takeCaptured_42 rfl (lv_at hl 0 rfl) ?_
        refine md_gR (k := 97) cx hw hin12c (by decide) (by decide) (List.mem_cons_of_mem _ mm_595) dX12_takeCaptured_43 ?_
        refine lv_iload_n cx.1 cx.2.1 dX12_takeCaptured_46 rfl (lv_at hl 2 rfl) ?_
        obtain ⟨v4, e_v4, h⟩ := md_ob h
        refine md_lI (k := 97) hj cx hw (by decide) rfl rfl rfl e_v4 dX12_takeCaptured_47 ?_
        refine lv_iload cx.1 cx.2.1 dX12_takeCaptured_48 (lv_at hl 4 rfl) ?_
        refine lv_iadd cx.1 cx.2.1 dX12_takeCaptured_50 ?_
        obtain ⟨v5, e_v5, h⟩ := md_ob h
        refine md_lI (k := 99) hj cx hw (by decide) rfl rfl rfl e_v5 dX12_takeCaptured_51 ?_
        refine lv_aload_n cx.1 cx.2.1 dX12_takeCaptured_52 rfl (lv_at hl 0 rfl) ?_
        refine md_gR (k := 100) cx hw hin12c (by decide) (by decide) (List.mem_cons_of_mem _ mm_598) dX12_takeCaptured_53 ?_
        refine lv_aload_n cx.1 cx.2.1 dX12_takeCaptured_56 rfl (lv_at hl 0 rfl) ?_
        refine md_gR (k := 97) cx hw hin12c (by decide) (by decide) (List.mem_cons_of_mem _ mm_595) dX12_takeCaptured_57 ?_
        refine lv_iload_n cx.1 cx.2.1 dX12_takeCaptured_60 rfl (lv_at hl 2 rfl) ?_
        obtain ⟨v6, e_v6, h⟩ := md_ob h
        refine md_lI (k := 97) hj cx hw (by decide) rfl rfl rfl e_v6 dX12_takeCaptured_61 ?_
        refine lv_iload cx.1 cx.2.1 dX12_takeCaptured_62 (lv_at hl 4 rfl) ?_
        refine lv_iadd cx.1 cx.2.1 dX12_takeCaptured_64 ?_
        obtain ⟨v7, e_v7, h⟩ := md_ob h
        refine md_lI (k := 100) hj cx hw (by decide) rfl rfl rfl e_v7 dX12_takeCaptured_65 ?_
        obtain ⟨p8, e_p8, h⟩ := md_ob h
        refine hp_callVv (As := [.int l1, .int l3, .int l4, .int v5, .int v7]) (rest := []) cx hw (km_X12_setLocal l D cA E _ ad hj hE n σ l1 l3 l4 v5 v7 p8 e_p8) (cwV 5 cx.2.2.2.2.2.1 (md_giV mm_589 mm_590 mm_591 mm_5 mm_592) rfl rfl rfl hd_X12_setLocal ⟨Nat.le_of_ble_eq_true rfl, Nat.le_of_ble_eq_true rfl⟩) md_at0 rfl rfl hl.1 rfl (Nat.le_of_ble_eq_true rfl) dX12_takeCaptured_66 ⟨Nat.le_refl _, Nat.le_refl _⟩ (fun u H locs hp hw => ?_)
        obtain rfl := hp
        refine lv_iinc (v := (l4 + 1)) (lv' := [(4, .int (l4 + 1)), (0, .ref (ad 137)), (1, .int l1), (2, .int l2), (3, .int l3)]) cx.1 cx.2.1 dX12_takeCaptured_69 hl (k := 4) rfl rfl (by decide) rfl (fun ls hl => ?_)
        refine lv_goto (tgt := 17) cx.1 cx.2.1 dX12_takeCaptured_72 (by decide) ?_
        exact ih p8.2 l1 l2 l3 ((l4 + 1)) q _ _ _ h hw (lv_sub hl [1, 2, 3, 4, 0] rfl) K
  obtain ⟨q9, e_q9, h⟩ := md_ob h
  refine L17 n σ0 a1 a2 (((((60 : Int32) * a1) + v1) - 1)) 0 q9 _ _ _ e_q9 hw (lv_sub hl [2, 3, 4, 1, 0] rfl) (fun H locs ls hw hl => ?_)
  exact hp_vret cx hw (md_retv h) dX12_takeCaptured_75
set_option maxHeartbeats 4000000 in
set_option maxRecDepth 100000 in
theorem km_X12_applies (l : Launch) (D : va_G) (cA : Nat → ClassId) (E : hp_N) (sz : Nat) (ad : Nat → Nat) (hj : md_inj ad) (hE : md_E E) (n : Nat) (σ0 : md_S) (a1 : Int32) (p : (Int32 × md_S)) (h : f_X12_applies n σ0 a1 = some p) : Met l yX12_applies (Cond.code yX12_applies cX12_applies 6 none :: v_MOD) ({ frames := 3, cells := 0, slots := 0, locals := 78 }) (hp_Pc D vwCl (hp_Tl cA) E sz (md_pic cA ad σ0) [.ref (ad 137), .int a1]) (hp_Qv D vwCl (hp_Tl cA) sz (md_pic cA ad σ0) (fun u => u = md_pic cA ad p.2)) 0 0 (hp_A (md_pic cA ad σ0) sz) := by
  refine hp_ofW (cc := cX12_applies) (maxL := 6) (ret := none) (by decide) rfl (Nat.le_of_ble_eq_true rfl) ?_
  intro pp ee ss mm bb mt cd ls cx hsz hw hl
  have hl : lv_has ls 6 [(0, .ref (ad 137)), (1, .int a1)] := hl
  refine lv_sipush (v := 9000) cx.1 cx.2.1 dX12_applies_0 (by decide) ?_
  refine lv_aload_n cx.1 cx.2.1 dX12_applies_3 rfl (lv_at hl 0 rfl) ?_
  refine md_gI (k := 127) cx hw hin12c rfl (by decide) (List.mem_cons_of_mem _ mm_538) dX12_applies_4 ?_
  refine lv_imul cx.1 cx.2.1 dX12_applies_7 ?_
  refine lv_aload_n cx.1 cx.2.1 dX12_applies_8 rfl (lv_at hl 0 rfl) ?_
  refine md_gR (k := 120) cx hw hin12c (by decide) (by decide) (List.mem_cons_of_mem _ mm_540) dX12_applies_9 ?_
  refine lv_aload_n cx.1 cx.2.1 dX12_applies_12 rfl (lv_at hl 0 rfl) ?_
  refine md_gI (k := 127) cx hw hin12c rfl (by decide) (List.mem_cons_of_mem _ mm_538) dX12_applies_13 ?_
  obtain ⟨v1, e_v1, h⟩ := md_ob h
  refine md_lI (k := 120) hj cx hw (by decide) rfl rfl rfl e_v1 dX12_applies_16 ?_
  refine lv_iadd cx.1 cx.2.1 dX12_applies_17 ?_
  refine lv_iload_n cx.1 cx.2.1 dX12_applies_18 rfl (lv_at hl 1 rfl) ?_
  refine lv_isub cx.1 cx.2.1 dX12_applies_19 ?_
  refine lv_iconst (v := 1) cx.1 cx.2.1 dX12_applies_20 (by decide) ?_
  refine lv_isub cx.1 cx.2.1 dX12_applies_21 ?_
  refine lv_istore_n (lv' := [(2, .int (((((9000 : Int32) * (mI σ0 127)) + v1) - a1) - 1)), (0, .ref (ad 137)), (1, .int a1)]) cx.1 cx.2.1 dX12_applies_22 rfl hl (by decide) rfl (fun ls hl => ?_)
  refine lv_aload_n cx.1 cx.2.1 dX12_applies_23 rfl (lv_at hl 1 rfl) ?_
  refine md_gR (k := 120) cx hw hin12c (by decide) (by decide) (List.mem_cons_of_mem _ mm_540) dX12_applies_24 ?_
  refine lv_aload_n cx.1 cx.2.1 dX12_applies_27 rfl (lv_at hl 1 rfl) ?_
  refine md_gI (k := 127) cx hw hin12c rfl (by decide) (List.mem_cons_of_mem _ mm_538) dX12_applies_28 ?_
  refine lv_dup2_11 cx.1 cx.2.1 dX12_applies_31 rfl rfl ?_
  obtain ⟨v2, e_v2, h⟩ := md_ob h
  refine md_lI (k := 120) hj cx hw (by decide) rfl rfl rfl e_v2 dX12_applies_32 ?_
  refine lv_iload_n cx.1 cx.2.1 dX12_applies_33 rfl (lv_at hl 2 rfl) ?_
  refine lv_iconst (v := 1) cx.1 cx.2.1 dX12_applies_34 (by decide) ?_
  refine lv_iadd cx.1 cx.2.1 dX12_applies_35 ?_
  refine lv_isub cx.1 cx.2.1 dX12_applies_36 ?_
  obtain ⟨σ3, e_σ3, h⟩ := md_ob h
  refine md_sI (k := 120) hj cx hw (by decide) rfl rfl rfl e_σ3 dX12_applies_37 (fun H locs hw => ?_)
  refine lv_aload_n cx.1 cx.2.1 dX12_applies_38 rfl (lv_at hl 1 rfl) ?_
  refine md_gR (k := 121) cx hw hin12c (by decide) (by decide) (List.mem_cons_of_mem _ mm_541) dX12_applies_39 ?_
  refine lv_iload_n cx.1 cx.2.1 dX12_applies_42 rfl (lv_at hl 0 rfl) ?_
  obtain ⟨v4, e_v4, h⟩ := md_ob h
  refine md_lI (k := 121) hj cx hw (by decide) rfl rfl rfl e_v4 dX12_applies_43 ?_
  refine lv_iconst (v := 3) cx.1 cx.2.1 dX12_applies_44 (by decide) ?_
  refine lv_icmp_eq (tgt := 54) cx.1 cx.2.1 dX12_applies_45 (by decide) (fun c45 => ?_) (fun c45 => ?_)
  · have h := md_ip c45 h
    refine lv_aload_n cx.1 cx.2.1 dX12_applies_54 rfl (lv_at hl 1 rfl) ?_
    refine md_gR (k := 122) cx hw hin12c (by decide) (by decide) (List.mem_cons_of_mem _ mm_542) dX12_applies_55 ?_
    refine lv_iload_n cx.1 cx.2.1 dX12_applies_58 rfl (lv_at hl 0 rfl) ?_
    obtain ⟨v5, e_v5, h⟩ := md_ob h
    refine md_lI (k := 122) hj cx hw (by decide) rfl rfl rfl e_v5 dX12_applies_59 ?_
    refine lv_istore_n (lv' := [(3, .int v5), (2, .int (((((9000 : Int32) * (mI σ0 127)) + v1) - a1) - 1)), (0, .ref (ad 137)), (1, .int a1)]) cx.1 cx.2.1 dX12_applies_60 rfl hl (by decide) rfl (fun ls hl => ?_)
    refine lv_aload_n cx.1 cx.2.1 dX12_applies_61 rfl (lv_at hl 2 rfl) ?_
    refine md_gR (k := 96) cx hw hin12c (by decide) (by decide) (List.mem_cons_of_mem _ mm_593) dX12_applies_62 ?_
    refine lv_iload_n cx.1 cx.2.1 dX12_applies_65 rfl (lv_at hl 0 rfl) ?_
    obtain ⟨v6, e_v6, h⟩ := md_ob h
    refine md_lI (k := 96) hj cx hw (by decide) rfl rfl rfl e_v6 dX12_applies_66 ?_
    refine lv_istore (lv' := [(4, .int v6), (3, .int v5), (2, .int (((((9000 : Int32) * (mI σ0 127)) + v1) - a1) - 1)), (0, .ref (ad 137)), (1, .int a1)]) cx.1 cx.2.1 dX12_applies_67 hl (by decide) rfl (fun ls hl => ?_)
    refine lv_aload_n cx.1 cx.2.1 dX12_applies_69 rfl (lv_at hl 3 rfl) ?_
    refine md_gR (k := 39) cx hw hin12c (by decide) (by decide) (List.mem_cons_of_mem _ mm_140) dX12_applies_70 ?_
    refine lv_iload cx.1 cx.2.1 dX12_applies_73 (lv_at hl 0 rfl) ?_
    obtain ⟨v7, e_v7, h⟩ := md_ob h
    refine md_lI (k := 39) hj cx hw (by decide) rfl rfl rfl e_v7 dX12_applies_75 ?_
    refine lv_iload_n cx.1 cx.2.1 dX12_applies_76 rfl (lv_at hl 4 rfl) ?_
    refine lv_icmp_eq (tgt := 86) cx.1 cx.2.1 dX12_applies_77 (by decide) (fun c77 => ?_) (fun c77 => ?_)
    · have h := md_ip c77 h
      refine lv_aload_n cx.1 cx.2.1 dX12_applies_86 rfl (lv_at hl 3 rfl) ?_
      refine lv_aload_n cx.1 cx.2.1 dX12_applies_87 rfl (lv_at hl 3 rfl) ?_
      refine md_gI (k := 127) cx hw hin12c rfl (by decide) (List.mem_cons_of_mem _ mm_538) dX12_applies_88 ?_
      refine lv_iload cx.1 cx.2.1 dX12_applies_91 (lv_at hl 0 rfl) ?_
      refine lv_iconst (v := 0) cx.1 cx.2.1 dX12_applies_93 (by decide) ?_
      obtain ⟨p8, e_p8, h⟩ := md_ob h
      refine hp_callVi (As := [.int (mI σ3 127), .int v6, .int 0]) (rest := []) cx hw (km_X12_begin l D cA E _ ad hj hE n σ3 ((mI σ3 127)) v6 (0 : Int32) p8 e_p8) (cwV 3 cx.2.2.2.2.2.1 (md_giV mm_617 mm_618 mm_619 mm_5 mm_620) rfl rfl rfl hd_X12_begin ⟨Nat.le_of_ble_eq_true rfl, Nat.le_of_ble_eq_true rfl⟩) md_at0 rfl rfl hl.1 rfl (Nat.le_of_ble_eq_true rfl) dX12_applies_94 ⟨Nat.le_refl _, Nat.le_refl _⟩ (fun r u H locs hp hw => ?_)
      obtain ⟨rfl, rfl⟩ := hp
      refine lv_if_eq (tgt := 168) cx.1 cx.2.1 dX12_applies_97 (by decide) (fun c97 => ?_) (fun c97 => ?_)
      · have h := md_ip c97 h
        exact hp_vret cx hw (md_retv h) dX12_applies_168
      · have h := md_in c97 h
        refine lv_aload_n cx.1 cx.2.1 dX12_applies_100 rfl (lv_at hl 3 rfl) ?_
        refine lv_aload_n cx.1 cx.2.1 dX12_applies_101 rfl (lv_at hl 3 rfl) ?_
        refine md_gI (k := 127) cx hw hin12c rfl (by decide) (List.mem_cons_of_mem _ mm_538) dX12_applies_102 ?_
        refine lv_iload_n cx.1 cx.2.1 dX12_applies_105 rfl (lv_at hl 1 rfl) ?_
        obtain ⟨p9, e_p9, h⟩ := md_ob h
        refine hp_callVv (As := [.int (mI p8.2 127), .int v5]) (rest := []) cx hw (km_X12_takeCaptured l D cA E _ ad hj hE n p8.2 ((mI p8.2 127)) v5 p9 e_p9) (cwV 2 cx.2.2.2.2.2.1 (md_giV mm_621 mm_622 mm_623 mm_5 mm_624) rfl rfl rfl hd_X12_takeCaptured ⟨Nat.le_of_ble_eq_true rfl, Nat.le_of_ble_eq_true rfl⟩) md_at0 rfl rfl hl.1 rfl (Nat.le_of_ble_eq_true rfl) dX12_applies_106 ⟨Nat.le_refl _, Nat.le_refl _⟩ (fun u H locs hp hw => ?_)
        obtain rfl := hp
        refine lv_iconst (v := 0) cx.1 cx.2.1 dX12_applies_109 (by decide) ?_
        refine lv_istore (lv' := [(5, .int 0), (4, .int v6), (3, .int v5), (2, .int (((((9000 : Int32) * (mI σ0 127)) + v1) - a1) - 1)), (0, .ref (ad 137)), (1, .int a1)]) cx.1 cx.2.1 dX12_applies_110 hl (by decide) rfl (fun ls hl => ?_)
        have L112 : ∀ (j : Nat) (σ : md_S) (l1 : Int32) (l2 : Int32) (l4 : Int32) (l5 : Int32) (q : (md_S × Int32)) (H : Heap) (locs : List Loc) (ls : Array Slot), f_X12_applies_L112 n l1 l2 l4 j σ l5 = some q → hp_w D vwCl (hp_Tl cA) E (hp_A (md_pic cA ad σ0) sz) ss H locs (md_pic cA ad σ) → lv_has ls 6 [(0, .ref (ad 137)), (1, .int l1), (2, .int l2), (4, .int l4), (5, .int l5)] → (∀ (H : Heap) (locs : List Loc) (ls : Array Slot), hp_w D vwCl (hp_Tl cA) E (hp_A (md_pic cA ad σ0) sz) ss H locs (md_pic cA ad q.1) → lv_has ls 6 [] → W pp l ee ({ frames := 3, cells := 0, slots := 0, locals := 78 }) ss mm [.ref (ad 137), .int a1].toArray bb mt cd H locs 0 0 (MQ bb (hp_Qv D vwCl (hp_Tl cA) sz (md_pic cA ad σ0) (fun u => u = md_pic cA ad p.2)) [.ref (ad 137), .int a1].toArray ss 0 0 (hp_A (md_pic cA ad σ0) sz)) (F0 mm 168 ls [])) → W pp l ee ({ frames := 3, cells := 0, slots := 0, locals := 78 }) ss mm [.ref (ad 137), .int a1].toArray bb mt cd H locs 0 0 (MQ bb (hp_Qv D vwCl (hp_Tl cA) sz (md_pic cA ad σ0) (fun u => u = md_pic cA ad p.2)) [.ref (ad 137), .int a1].toArray ss 0 0 (hp_A (md_pic cA ad σ0) sz)) (F0 mm 112 ls []) := by
          intro j
          induction j with
          | zero => intro σ l1 l2 l4 l5 q H locs ls h; exact nomatch h
          | succ j ih =>
            intro σ l1 l2 l4 l5 q H locs ls h hw hl K
            refine lv_iload cx.1 cx.2.1 dX12_applies_112 (lv_at hl 4 rfl) ?_
            refine lv_iload_n cx.1 cx.2.1 dX12_applies_114 rfl (lv_at hl 1 rfl) ?_
            refine lv_icmp_ge (tgt := 168) cx.1 cx.2.1 dX12_applies_115 (by decide) (fun c115 => ?_) (fun c115 => ?_)
            · have h := md_ip c115 h
              obtain rfl := Option.some.inj h
              exact K _ _ _ hw (lv_sub hl [] rfl)
            · have h := md_in c115 h
              refine lv_aload_n cx.1 cx.2.1 dX12_applies_118 rfl (lv_at hl 0 rfl) ?_
              refine lv_aload_n cx.1 cx.2.1 dX12_applies_119 rfl (lv_at hl 0 rfl) ?_
              refine md_gI (k := 127) cx hw hin12c rfl (by decide) (List.mem_cons_of_mem _ mm_538) dX12_applies_120 ?_
              refine lv_aload_n cx.1 cx.2.1 dX12_applies_123 rfl (lv_at hl 0 rfl) ?_
              obtain ⟨p10, e_p10, h⟩ := md_ob h
              refine hp_callVi (As := []) (rest := [.int (mI σ 127), .ref (ad 137)]) cx hw (km_X12_frameAt l D cA E _ ad hj hE n σ  p10 e_p10) (cwV 0 cx.2.2.2.2.2.1 (md_giV mm_551 mm_552 mm_553 mm_5 mm_554) rfl rfl rfl hd_X12_frameAt ⟨Nat.le_of_ble_eq_true rfl, Nat.le_of_ble_eq_true rfl⟩) md_at0 rfl rfl hl.1 rfl (Nat.le_of_ble_eq_true rfl) dX12_applies_124 ⟨Nat.le_refl _, Nat.le_refl _⟩ (fun r u H locs hp hw => ?_)
              obtain ⟨rfl, rfl⟩ := hp
              refine lv_aload_n cx.1 cx.2.1 dX12_applies_127 rfl (lv_at hl 0 rfl) ?_
              refine md_gR (k := 44) cx hw hin12c (by decide) (by decide) (List.mem_cons_of_mem _ mm_246) dX12_applies_128 ?_
              refine lv_iload cx.1 cx.2.1 dX12_applies_131 (lv_at hl 3 rfl) ?_
              obtain ⟨v11, e_v11, h⟩ := md_ob h
              refine md_lI (k := 44) hj cx hw (by decide) rfl rfl rfl e_v11 dX12_applies_133 ?_
              refine lv_iload cx.1 cx.2.1 dX12_applies_134 (lv_at hl 4 rfl) ?_
              refine lv_iadd cx.1 cx.2.1 dX12_applies_136 ?_
              refine lv_aload_n cx.1 cx.2.1 dX12_applies_137 rfl (lv_at hl 0 rfl) ?_
              refine md_gR (k := 121) cx hw hin12c (by decide) (by decide) (List.mem_cons_of_mem _ mm_541) dX12_applies_138 ?_
              refine lv_iload_n cx.1 cx.2.1 dX12_applies_141 rfl (lv_at hl 2 rfl) ?_
              refine lv_iconst (v := 1) cx.1 cx.2.1 dX12_applies_142 (by decide) ?_
              refine lv_iadd cx.1 cx.2.1 dX12_applies_143 ?_
              refine lv_iload cx.1 cx.2.1 dX12_applies_144 (lv_at hl 4 rfl) ?_
              refine lv_iadd cx.1 cx.2.1 dX12_applies_146 ?_
              obtain ⟨v12, e_v12, h⟩ := md_ob h
              refine md_lI (k := 121) hj cx hw (by decide) rfl rfl rfl e_v12 dX12_applies_147 ?_
              refine lv_aload_n cx.1 cx.2.1 dX12_applies_148 rfl (lv_at hl 0 rfl) ?_
              refine md_gR (k := 122) cx hw hin12c (by decide) (by decide) (List.mem_cons_of_mem _ mm_542) dX12_applies_149 ?_
              refine lv_iload_n cx.1 cx.2.1 dX12_applies_152 rfl (lv_at hl 2 rfl) ?_
              refine lv_iconst (v := 1) cx.1 cx.2.1 dX12_applies_153 (by decide) ?_
              refine lv_iadd cx.1 cx.2.1 dX12_applies_154 ?_
              refine lv_iload cx.1 cx.2.1 dX12_applies_155 (lv_at hl 4 rfl) ?_
              refine lv_iadd cx.1 cx.2.1 dX12_applies_157 ?_
              obtain ⟨v13, e_v13, h⟩ := md_ob h
              refine md_lI (k := 122) hj cx hw (by decide) rfl rfl rfl e_v13 dX12_applies_158 ?_
              obtain ⟨p14, e_p14, h⟩ := md_ob h
              refine hp_callVv (As := [.int (mI σ 127), .int p10.1, .int (v11 + l5), .int v12, .int v13]) (rest := []) cx hw (km_X12_setLocal l D cA E _ ad hj hE n p10.2 ((mI σ 127)) (p10.1) ((v11 + l5)) v12 v13 p14 e_p14) (cwV 5 cx.2.2.2.2.2.1 (md_giV mm_589 mm_590 mm_591 mm_5 mm_592) rfl rfl rfl hd_X12_setLocal ⟨Nat.le_of_ble_eq_true rfl, Nat.le_of_ble_eq_true rfl⟩) md_at0 rfl rfl hl.1 rfl (Nat.le_of_ble_eq_true rfl) dX12_applies_159 ⟨Nat.le_refl _, Nat.le_refl _⟩ (fun u H locs hp hw => ?_)
              obtain rfl := hp
              refine lv_iinc (v := (l5 + 1)) (lv' := [(5, .int (l5 + 1)), (0, .ref (ad 137)), (1, .int l1), (2, .int l2), (4, .int l4)]) cx.1 cx.2.1 dX12_applies_162 hl (k := 4) rfl rfl (by decide) rfl (fun ls hl => ?_)
              refine lv_goto (tgt := 112) cx.1 cx.2.1 dX12_applies_165 (by decide) ?_
              exact ih p14.2 l1 l2 l4 ((l5 + 1)) q _ _ _ h hw (lv_sub hl [1, 2, 3, 4, 0] rfl) K
        obtain ⟨q15, e_q15, h⟩ := md_ob h
        refine L112 n p9.2 a1 ((((((9000 : Int32) * (mI σ0 127)) + v1) - a1) - 1)) v6 0 q15 _ _ _ e_q15 hw (lv_sub hl [4, 5, 3, 1, 0] rfl) (fun H locs ls hw hl => ?_)
        exact hp_vret cx hw (md_retv h) dX12_applies_168
    · have h := md_in c77 h
      refine lv_aload_n cx.1 cx.2.1 dX12_applies_80 rfl (lv_at hl 3 rfl) ?_
      refine lv_iconst (v := 4) cx.1 cx.2.1 dX12_applies_81 (by decide) ?_
      obtain ⟨p16, e_p16, h⟩ := md_ob h
      refine hp_callVv (As := [.int 4]) (rest := []) cx hw (km_X12_failure l D cA E _ ad hj hE n σ3 (4 : Int32) p16 e_p16) (cwV 1 cx.2.2.2.2.2.1 (md_giV mm_575 mm_576 mm_577 mm_5 mm_578) rfl rfl rfl hd_X12_failure ⟨Nat.le_of_ble_eq_true rfl, Nat.le_of_ble_eq_true rfl⟩) md_at0 rfl rfl hl.1 rfl (Nat.le_of_ble_eq_true rfl) dX12_applies_82 ⟨Nat.le_refl _, Nat.le_refl _⟩ (fun u H locs hp hw => ?_)
      obtain rfl := hp
      exact hp_vret cx hw (md_retv h) dX12_applies_85
  · have h := md_in c45 h
    refine lv_aload_n cx.1 cx.2.1 dX12_applies_48 rfl (lv_at hl 1 rfl) ?_
    refine lv_iconst (v := 3) cx.1 cx.2.1 dX12_applies_49 (by decide) ?_
    obtain ⟨p17, e_p17, h⟩ := md_ob h
    refine hp_callVv (As := [.int 3]) (rest := []) cx hw (km_X12_failure l D cA E _ ad hj hE n σ3 (3 : Int32) p17 e_p17) (cwV 1 cx.2.2.2.2.2.1 (md_giV mm_575 mm_576 mm_577 mm_5 mm_578) rfl rfl rfl hd_X12_failure ⟨Nat.le_of_ble_eq_true rfl, Nat.le_of_ble_eq_true rfl⟩) md_at0 rfl rfl hl.1 rfl (Nat.le_of_ble_eq_true rfl) dX12_applies_50 ⟨Nat.le_refl _, Nat.le_refl _⟩ (fun u H locs hp hw => ?_)
    obtain rfl := hp
    exact hp_vret cx hw (md_retv h) dX12_applies_53
set_option maxHeartbeats 4000000 in
set_option maxRecDepth 100000 in
theorem km_X12_placeWith (l : Launch) (D : va_G) (cA : Nat → ClassId) (E : hp_N) (sz : Nat) (ad : Nat → Nat) (hj : md_inj ad) (hE : md_E E) (n : Nat) (σ0 : md_S) (a1 : Int32) (a2 : Int32) (p : (Int32 × md_S)) (h : f_X12_placeWith n σ0 a1 a2 = some p) : Met l yX12_placeWith (Cond.code yX12_placeWith cX12_placeWith 7 none :: v_MOD) ({ frames := 3, cells := 0, slots := 0, locals := 65 }) (hp_Pc D vwCl (hp_Tl cA) E sz (md_pic cA ad σ0) [.ref (ad 137), .int a1, .int a2]) (hp_Qv D vwCl (hp_Tl cA) sz (md_pic cA ad σ0) (fun u => u = md_pic cA ad p.2)) 0 0 (hp_A (md_pic cA ad σ0) sz) := by
  refine hp_ofW (cc := cX12_placeWith) (maxL := 7) (ret := none) (by decide) rfl (Nat.le_of_ble_eq_true rfl) ?_
  intro pp ee ss mm bb mt cd ls cx hsz hw hl
  have hl : lv_has ls 7 [(0, .ref (ad 137)), (1, .int a1), (2, .int a2)] := hl
  have J70 : ∀ (σ : md_S) (l2 : Int32) (l3 : Int32) (l4 : Int64) (t0 : Int32) (H : Heap) (locs : List Loc) (ls : Array Slot), f_X12_placeWith_J70 n σ l2 l3 l4 t0 = some p → hp_w D vwCl (hp_Tl cA) E (hp_A (md_pic cA ad σ0) sz) ss H locs (md_pic cA ad σ) → lv_has ls 7 [(0, .ref (ad 137)), (2, .int l2), (3, .int l3), (4, .long l4)] → W pp l ee ({ frames := 3, cells := 0, slots := 0, locals := 65 }) ss mm [.ref (ad 137), .int a1, .int a2].toArray bb mt cd H locs 0 0 (MQ bb (hp_Qv D vwCl (hp_Tl cA) sz (md_pic cA ad σ0) (fun u => u = md_pic cA ad p.2)) [.ref (ad 137), .int a1, .int a2].toArray ss 0 0 (hp_A (md_pic cA ad σ0) sz)) (F0 mm 70 ls [.int t0]) := by
    intro σ l2 l3 l4 t0 H locs ls h hw hl
    refine lv_istore (lv' := [(6, .int t0), (0, .ref (ad 137)), (2, .int l2), (3, .int l3), (4, .long l4)]) cx.1 cx.2.1 dX12_placeWith_70 hl (by decide) rfl (fun ls hl => ?_)
    have L72 : ∀ (j : Nat) (σ : md_S) (l2 : Int32) (l3 : Int32) (l4 : Int64) (l6 : Int32) (q : (md_S × Int64 × Int32)) (H : Heap) (locs : List Loc) (ls : Array Slot), f_X12_placeWith_L72 n l2 l3 j σ l4 l6 = some q → hp_w D vwCl (hp_Tl cA) E (hp_A (md_pic cA ad σ0) sz) ss H locs (md_pic cA ad σ) → lv_has ls 7 [(0, .ref (ad 137)), (2, .int l2), (3, .int l3), (4, .long l4), (6, .int l6)] → (∀ (H : Heap) (locs : List Loc) (ls : Array Slot), hp_w D vwCl (hp_Tl cA) E (hp_A (md_pic cA ad σ0) sz) ss H locs (md_pic cA ad q.1) → lv_has ls 7 [(0, .ref (ad 137)), (3, .int l3), (4, .long q.2.1)] → W pp l ee ({ frames := 3, cells := 0, slots := 0, locals := 65 }) ss mm [.ref (ad 137), .int a1, .int a2].toArray bb mt cd H locs 0 0 (MQ bb (hp_Qv D vwCl (hp_Tl cA) sz (md_pic cA ad σ0) (fun u => u = md_pic cA ad p.2)) [.ref (ad 137), .int a1, .int a2].toArray ss 0 0 (hp_A (md_pic cA ad σ0) sz)) (F0 mm 110 ls [])) → W pp l ee ({ frames := 3, cells := 0, slots := 0, locals := 65 }) ss mm [.ref (ad 137), .int a1, .int a2].toArray bb mt cd H locs 0 0 (MQ bb (hp_Qv D vwCl (hp_Tl cA) sz (md_pic cA ad σ0) (fun u => u = md_pic cA ad p.2)) [.ref (ad 137), .int a1, .int a2].toArray ss 0 0 (hp_A (md_pic cA ad σ0) sz)) (F0 mm 72 ls []) := by
      intro j
      induction j with
      | zero => intro σ l2 l3 l4 l6 q H locs ls h; exact nomatch h
      | succ j ih =>
        intro σ l2 l3 l4 l6 q H locs ls h hw hl K
        refine lv_iload cx.1 cx.2.1 dX12_placeWith_72 (lv_at hl 4 rfl) ?_
        refine lv_if_le (tgt := 110) cx.1 cx.2.1 dX12_placeWith_74 (by decide) (fun c74 => ?_) (fun c74 => ?_)
        · have h := md_ip c74 h
          obtain rfl := Option.some.inj h
          exact K _ _ _ hw (lv_sub hl [0, 2, 3] rfl)
        · have h := md_in c74 h
          refine lv_ldc2 cx.1 cx.2.1 cx.2.2.2.2.1 (cx.2.2.2.2.2.1 _ (List.mem_cons_of_mem _ mm_24)) dX12_placeWith_77 ?_
          refine lv_lload cx.1 cx.2.1 dX12_placeWith_80 (lv_at hl 3 rfl) ?_
          refine lv_lmul cx.1 cx.2.1 dX12_placeWith_82 ?_
          refine lv_bipush (v := 48) cx.1 cx.2.1 dX12_placeWith_83 (by decide) ?_
          refine lv_iload_n cx.1 cx.2.1 dX12_placeWith_85 rfl (lv_at hl 1 rfl) ?_
          refine lv_iload cx.1 cx.2.1 dX12_placeWith_86 (lv_at hl 4 rfl) ?_
          obtain ⟨z1, e_z1, h⟩ := md_ob h
          refine lv_idiv cx.1 cx.2.1 dX12_placeWith_88 (md_nzs e_z1) ?_
          refine lv_bipush (v := 10) cx.1 cx.2.1 dX12_placeWith_89 (by decide) ?_
          refine lv_irem cx.1 cx.2.1 dX12_placeWith_91 (by decide) ?_
          refine lv_iadd cx.1 cx.2.1 dX12_placeWith_92 ?_
          obtain ⟨p2, e_p2, h⟩ := md_ob h
          refine hp_callSi (As := [.int ((48 : Int32) + (((l2 / l6)) - ((l2 / l6)) / ((10 : Int32)) * ((10 : Int32))))]) (rest := [.long ((37 : Int64) * l4)]) cx hw (km_X12_digitOf l D cA E _ ad hj hE n σ (((48 : Int32) + (((l2 / l6)) - ((l2 / l6)) / ((10 : Int32)) * ((10 : Int32))))) p2 e_p2) (cwS 1 cx.2.2.2.2.2.1 (md_giS mm_29 mm_30 mm_5 mm_31) rfl rfl rfl hd_X12_digitOf ⟨Nat.le_of_ble_eq_true rfl, Nat.le_of_ble_eq_true rfl⟩) rfl hl.1 rfl (Nat.le_of_ble_eq_true rfl) dX12_placeWith_93 ⟨Nat.le_refl _, Nat.le_refl _⟩ (fun r u H locs hp hw => ?_)
          obtain ⟨rfl, rfl⟩ := hp
          refine lv_i2l (v := (p2.1.toInt64)) cx.1 cx.2.1 dX12_placeWith_96 rfl ?_
          refine lv_ladd cx.1 cx.2.1 dX12_placeWith_97 ?_
          refine lv_lstore (lv' := [(4, .long (((37 : Int64) * l4) + (p2.1.toInt64))), (0, .ref (ad 137)), (2, .int l2), (3, .int l3), (6, .int l6)]) cx.1 cx.2.1 dX12_placeWith_98 hl (by decide) rfl (fun ls hl => ?_)
          refine lv_iload cx.1 cx.2.1 dX12_placeWith_100 (lv_at hl 4 rfl) ?_
          refine lv_bipush (v := 10) cx.1 cx.2.1 dX12_placeWith_102 (by decide) ?_
          refine lv_idiv cx.1 cx.2.1 dX12_placeWith_104 (by decide) ?_
          refine lv_istore (lv' := [(6, .int (l6 / ((10 : Int32)))), (4, .long (((37 : Int64) * l4) + (p2.1.toInt64))), (0, .ref (ad 137)), (2, .int l2), (3, .int l3)]) cx.1 cx.2.1 dX12_placeWith_105 hl (by decide) rfl (fun ls hl => ?_)
          refine lv_goto (tgt := 72) cx.1 cx.2.1 dX12_placeWith_107 (by decide) ?_
          exact ih p2.2 l2 l3 ((((37 : Int64) * l4) + (p2.1.toInt64))) ((l6 / ((10 : Int32)))) q _ _ _ h hw (lv_sub hl [2, 3, 4, 1, 0] rfl) K
    obtain ⟨q3, e_q3, h⟩ := md_ob h
    refine L72 n σ l2 l3 l4 t0 q3 _ _ _ e_q3 hw (lv_sub hl [1, 2, 3, 4, 0] rfl) (fun H locs ls hw hl => ?_)
    refine lv_aload_n cx.1 cx.2.1 dX12_placeWith_110 rfl (lv_at hl 0 rfl) ?_
    refine md_gR (k := 17) cx hw hin12c (by decide) (by decide) (List.mem_cons_of_mem _ mm_100) dX12_placeWith_111 ?_
    refine lv_sipush (v := 1325) cx.1 cx.2.1 dX12_placeWith_114 (by decide) ?_
    refine lv_iload_n cx.1 cx.2.1 dX12_placeWith_117 rfl (lv_at hl 1 rfl) ?_
    refine lv_iadd cx.1 cx.2.1 dX12_placeWith_118 ?_
    refine lv_lload cx.1 cx.2.1 dX12_placeWith_119 (lv_at hl 2 rfl) ?_
    obtain ⟨σ4, e_σ4, h⟩ := md_ob h
    refine md_sJ (k := 17) hj cx hw (by decide) rfl rfl rfl e_σ4 dX12_placeWith_121 (fun H locs hw => ?_)
    refine lv_aload_n cx.1 cx.2.1 dX12_placeWith_122 rfl (lv_at hl 0 rfl) ?_
    refine md_gR (k := 18) cx hw hin12c (by decide) (by decide) (List.mem_cons_of_mem _ mm_101) dX12_placeWith_123 ?_
    refine lv_sipush (v := 265) cx.1 cx.2.1 dX12_placeWith_126 (by decide) ?_
    refine lv_iload_n cx.1 cx.2.1 dX12_placeWith_129 rfl (lv_at hl 1 rfl) ?_
    refine lv_iconst (v := 1) cx.1 cx.2.1 dX12_placeWith_130 (by decide) ?_
    refine lv_iadd cx.1 cx.2.1 dX12_placeWith_131 ?_
    obtain ⟨σ5, e_σ5, h⟩ := md_ob h
    refine md_sI (k := 18) hj cx hw (by decide) rfl rfl rfl e_σ5 dX12_placeWith_132 (fun H locs hw => ?_)
    refine lv_aload_n cx.1 cx.2.1 dX12_placeWith_133 rfl (lv_at hl 0 rfl) ?_
    refine md_gR (k := 19) cx hw hin12c (by decide) (by decide) (List.mem_cons_of_mem _ mm_102) dX12_placeWith_134 ?_
    refine lv_sipush (v := 265) cx.1 cx.2.1 dX12_placeWith_137 (by decide) ?_
    refine lv_iconst (v := 0) cx.1 cx.2.1 dX12_placeWith_140 (by decide) ?_
    obtain ⟨σ6, e_σ6, h⟩ := md_ob h
    refine md_sI (k := 19) hj cx hw (by decide) rfl rfl rfl e_σ6 dX12_placeWith_141 (fun H locs hw => ?_)
    exact hp_vret cx hw (md_retv h) dX12_placeWith_142
  refine lv_aload_n cx.1 cx.2.1 dX12_placeWith_0 rfl (lv_at hl 0 rfl) ?_
  refine md_gR (k := 18) cx hw hin12c (by decide) (by decide) (List.mem_cons_of_mem _ mm_101) dX12_placeWith_1 ?_
  refine lv_iload_n cx.1 cx.2.1 dX12_placeWith_4 rfl (lv_at hl 1 rfl) ?_
  obtain ⟨v7, e_v7, h⟩ := md_ob h
  refine md_lI (k := 18) hj cx hw (by decide) rfl rfl rfl e_v7 dX12_placeWith_5 ?_
  refine lv_istore_n (lv' := [(3, .int v7), (0, .ref (ad 137)), (1, .int a1), (2, .int a2)]) cx.1 cx.2.1 dX12_placeWith_6 rfl hl (by decide) rfl (fun ls hl => ?_)
  refine lv_iconst (v := 0) cx.1 cx.2.1 dX12_placeWith_7 (by decide) ?_
  refine lv_istore (lv' := [(4, .int 0), (3, .int v7), (0, .ref (ad 137)), (1, .int a1), (2, .int a2)]) cx.1 cx.2.1 dX12_placeWith_8 hl (by decide) rfl (fun ls hl => ?_)
  have L10 : ∀ (j : Nat) (σ : md_S) (l1 : Int32) (l2 : Int32) (l3 : Int32) (l4 : Int32) (q : (md_S × Int32)) (H : Heap) (locs : List Loc) (ls : Array Slot), f_X12_placeWith_L10 n l1 l2 l3 j σ l4 = some q → hp_w D vwCl (hp_Tl cA) E (hp_A (md_pic cA ad σ0) sz) ss H locs (md_pic cA ad σ) → lv_has ls 7 [(0, .ref (ad 137)), (1, .int l1), (2, .int l2), (3, .int l3), (4, .int l4)] → (∀ (H : Heap) (locs : List Loc) (ls : Array Slot), hp_w D vwCl (hp_Tl cA) E (hp_A (md_pic cA ad σ0) sz) ss H locs (md_pic cA ad q.1) → lv_has ls 7 [(0, .ref (ad 137)), (2, .int l2), (3, .int l3)] → W pp l ee ({ frames := 3, cells := 0, slots := 0, locals := 65 }) ss mm [.ref (ad 137), .int a1, .int a2].toArray bb mt cd H locs 0 0 (MQ bb (hp_Qv D vwCl (hp_Tl cA) sz (md_pic cA ad σ0) (fun u => u = md_pic cA ad p.2)) [.ref (ad 137), .int a1, .int a2].toArray ss 0 0 (hp_A (md_pic cA ad σ0) sz)) (F0 mm 44 ls [])) → W pp l ee ({ frames := 3, cells := 0, slots := 0, locals := 65 }) ss mm [.ref (ad 137), .int a1, .int a2].toArray bb mt cd H locs 0 0 (MQ bb (hp_Qv D vwCl (hp_Tl cA) sz (md_pic cA ad σ0) (fun u => u = md_pic cA ad p.2)) [.ref (ad 137), .int a1, .int a2].toArray ss 0 0 (hp_A (md_pic cA ad σ0) sz)) (F0 mm 10 ls []) := by
    intro j
    induction j with
    | zero => intro σ l1 l2 l3 l4 q H locs ls h; exact nomatch h
    | succ j ih =>
      intro σ l1 l2 l3 l4 q H locs ls h hw hl K
      refine lv_iload cx.1 cx.2.1 dX12_placeWith_10 (lv_at hl 4 rfl) ?_
      refine lv_iload_n cx.1 cx.2.1 dX12_placeWith_12 rfl (lv_at hl 3 rfl) ?_
      refine lv_icmp_ge (tgt := 44) cx.1 cx.2.1 dX12_placeWith_13 (by decide) (fun c13 => ?_) (fun c13 => ?_)
      · have h := md_ip c13 h
        obtain rfl := Option.some.inj h
        exact K _ _ _ hw (lv_sub hl [0, 2, 3] rfl)
      · have h := md_in c13 h
        refine lv_aload_n cx.1 cx.2.1 dX12_placeWith_16 rfl (lv_at hl 0 rfl) ?_
        refine md_gR (k := 17) cx hw hin12c (by decide) (by decide) (List.mem_cons_of_mem _ mm_100) dX12_placeWith_17 ?_
        refine lv_sipush (v := 1325) cx.1 cx.2.1 dX12_placeWith_20 (by decide) ?_
        refine lv_iload cx.1 cx.2.1 dX12_placeWith_23 (lv_at hl 4 rfl) ?_
        refine lv_iadd cx.1 cx.2.1 dX12_placeWith_25 ?_
        refine lv_aload_n cx.1 cx.2.1 dX12_placeWith_26 rfl (lv_at hl 0 rfl) ?_
        refine md_gR (k := 17) cx hw hin12c (by decide) (by decide) (List.mem_cons_of_mem _ mm_100) dX12_placeWith_27 ?_
        refine lv_iconst (v := 5) cx.1 cx.2.1 dX12_placeWith_30 (by decide) ?_
        refine lv_iload_n cx.1 cx.2.1 dX12_placeWith_31 rfl (lv_at hl 1 rfl) ?_
        refine lv_imul cx.1 cx.2.1 dX12_placeWith_32 ?_
        refine lv_iload cx.1 cx.2.1 dX12_placeWith_33 (lv_at hl 4 rfl) ?_
        refine lv_iadd cx.1 cx.2.1 dX12_placeWith_35 ?_
        obtain ⟨v8, e_v8, h⟩ := md_ob h
        refine md_lJ (k := 17) hj cx hw (by decide) rfl rfl rfl e_v8 dX12_placeWith_36 ?_
        obtain ⟨σ9, e_σ9, h⟩ := md_ob h
        refine md_sJ (k := 17) hj cx hw (by decide) rfl rfl rfl e_σ9 dX12_placeWith_37 (fun H locs hw => ?_)
        refine lv_iinc (v := (l4 + 1)) (lv' := [(4, .int (l4 + 1)), (0, .ref (ad 137)), (1, .int l1), (2, .int l2), (3, .int l3)]) cx.1 cx.2.1 dX12_placeWith_38 hl (k := 4) rfl rfl (by decide) rfl (fun ls hl => ?_)
        refine lv_goto (tgt := 10) cx.1 cx.2.1 dX12_placeWith_41 (by decide) ?_
        exact ih σ9 l1 l2 l3 ((l4 + 1)) q _ _ _ h hw (lv_sub hl [1, 2, 3, 4, 0] rfl) K
  obtain ⟨q10, e_q10, h⟩ := md_ob h
  refine L10 n σ0 a1 a2 v7 0 q10 _ _ _ e_q10 hw (lv_sub hl [2, 3, 4, 1, 0] rfl) (fun H locs ls hw hl => ?_)
  refine lv_lconst (v := 0) cx.1 cx.2.1 dX12_placeWith_44 (by decide) ?_
  refine lv_lstore (lv' := [(4, .long 0), (0, .ref (ad 137)), (2, .int a2), (3, .int v7)]) cx.1 cx.2.1 dX12_placeWith_45 hl (by decide) rfl (fun ls hl => ?_)
  refine lv_iload_n cx.1 cx.2.1 dX12_placeWith_47 rfl (lv_at hl 2 rfl) ?_
  refine lv_bipush (v := 99) cx.1 cx.2.1 dX12_placeWith_48 (by decide) ?_
  refine lv_icmp_le (tgt := 58) cx.1 cx.2.1 dX12_placeWith_50 (by decide) (fun c50 => ?_) (fun c50 => ?_)
  · have h := md_ip c50 h
    refine lv_iload_n cx.1 cx.2.1 dX12_placeWith_58 rfl (lv_at hl 2 rfl) ?_
    refine lv_bipush (v := 9) cx.1 cx.2.1 dX12_placeWith_59 (by decide) ?_
    refine lv_icmp_le (tgt := 69) cx.1 cx.2.1 dX12_placeWith_61 (by decide) (fun c61 => ?_) (fun c61 => ?_)
    · have h := md_ip c61 h
      refine lv_iconst (v := 1) cx.1 cx.2.1 dX12_placeWith_69 (by decide) ?_
      exact J70 q10.1 a2 v7 0 1 _ _ _ h hw (lv_sub hl [1, 2, 3, 0] rfl)
    · have h := md_in c61 h
      refine lv_bipush (v := 10) cx.1 cx.2.1 dX12_placeWith_64 (by decide) ?_
      refine lv_goto (tgt := 70) cx.1 cx.2.1 dX12_placeWith_66 (by decide) ?_
      exact J70 q10.1 a2 v7 0 10 _ _ _ h hw (lv_sub hl [1, 2, 3, 0] rfl)
  · have h := md_in c50 h
    refine lv_bipush (v := 100) cx.1 cx.2.1 dX12_placeWith_53 (by decide) ?_
    refine lv_goto (tgt := 70) cx.1 cx.2.1 dX12_placeWith_55 (by decide) ?_
    exact J70 q10.1 a2 v7 0 100 _ _ _ h hw (lv_sub hl [1, 2, 3, 0] rfl)
set_option maxHeartbeats 4000000 in
set_option maxRecDepth 100000 in
theorem km_X12_asks_ (l : Launch) (D : va_G) (cA : Nat → ClassId) (E : hp_N) (sz : Nat) (ad : Nat → Nat) (hj : md_inj ad) (hE : md_E E) (n : Nat) (σ0 : md_S) (a1 : Int32) (a2 : Int32) (p : (Int32 × md_S)) (h : f_X12_asks_ n σ0 a1 a2 = some p) : Met l yX12_asks_ (Cond.code yX12_asks_ cX12_asks_ 8 none :: v_MOD) ({ frames := 4, cells := 0, slots := 0, locals := 101 }) (hp_Pc D vwCl (hp_Tl cA) E sz (md_pic cA ad σ0) [.ref (ad 137), .int a1, .int a2]) (hp_Qv D vwCl (hp_Tl cA) sz (md_pic cA ad σ0) (fun u => u = md_pic cA ad p.2)) 0 0 (hp_A (md_pic cA ad σ0) sz) := by
  refine hp_ofW (cc := cX12_asks_) (maxL := 8) (ret := none) (by decide) rfl (Nat.le_of_ble_eq_true rfl) ?_
  intro pp ee ss mm bb mt cd ls cx hsz hw hl
  have hl : lv_has ls 8 [(0, .ref (ad 137)), (1, .int a1), (2, .int a2)] := hl
  have J158 : ∀ (σ : md_S) (l2 : Int32) (l4 : Int32) (l7 : Int32) (t0 : Int32) (t1 : Int32) (H : Heap) (locs : List Loc) (ls : Array Slot), f_X12_asks__J158 n σ l2 l4 l7 t0 t1 = some p → hp_w D vwCl (hp_Tl cA) E (hp_A (md_pic cA ad σ0) sz) ss H locs (md_pic cA ad σ) → lv_has ls 8 [(0, .ref (ad 137)), (2, .int l2), (4, .int l4), (7, .int l7)] → W pp l ee ({ frames := 4, cells := 0, slots := 0, locals := 101 }) ss mm [.ref (ad 137), .int a1, .int a2].toArray bb mt cd H locs 0 0 (MQ bb (hp_Qv D vwCl (hp_Tl cA) sz (md_pic cA ad σ0) (fun u => u = md_pic cA ad p.2)) [.ref (ad 137), .int a1, .int a2].toArray ss 0 0 (hp_A (md_pic cA ad σ0) sz)) (F0 mm 158 ls [.int t0, .int t1, .ref (ad 137)]) := by
    intro σ l2 l4 l7 t0 t1 H locs ls h hw hl
    refine lv_iload_n cx.1 cx.2.1 dX12_asks__158 rfl (lv_at hl 1 rfl) ?_
    refine lv_iload cx.1 cx.2.1 dX12_asks__159 (lv_at hl 2 rfl) ?_
    obtain ⟨p1, e_p1, h⟩ := md_ob h
    refine hp_callVv (As := [.int t1, .int t0, .int l2, .int l4]) (rest := []) cx hw (km_X12_tells l D cA E _ ad hj hE n σ t1 t0 l2 l4 p1 e_p1) (cwV 4 cx.2.2.2.2.2.1 (md_giV mm_565 mm_566 mm_567 mm_5 mm_568) rfl rfl rfl hd_X12_tells ⟨Nat.le_of_ble_eq_true rfl, Nat.le_of_ble_eq_true rfl⟩) md_at0 rfl rfl hl.1 rfl (Nat.le_of_ble_eq_true rfl) dX12_asks__161 ⟨Nat.le_refl _, Nat.le_refl _⟩ (fun u H locs hp hw => ?_)
    obtain rfl := hp
    refine lv_iload cx.1 cx.2.1 dX12_asks__164 (lv_at hl 3 rfl) ?_
    refine lv_if_eq (tgt := 178) cx.1 cx.2.1 dX12_asks__166 (by decide) (fun c166 => ?_) (fun c166 => ?_)
    · have h := md_ip c166 h
      refine lv_aload_n cx.1 cx.2.1 dX12_asks__178 rfl (lv_at hl 0 rfl) ?_
      refine lv_iconst (v := 1) cx.1 cx.2.1 dX12_asks__179 (by decide) ?_
      obtain ⟨p2, e_p2, h⟩ := md_ob h
      refine hp_callVv (As := [.int 1]) (rest := []) cx hw (km_X12_failure l D cA E _ ad hj hE n p1.2 (1 : Int32) p2 e_p2) (cwV 1 cx.2.2.2.2.2.1 (md_giV mm_575 mm_576 mm_577 mm_5 mm_578) rfl rfl rfl hd_X12_failure ⟨Nat.le_of_ble_eq_true rfl, Nat.le_of_ble_eq_true rfl⟩) md_at0 rfl rfl hl.1 rfl (Nat.le_of_ble_eq_true rfl) dX12_asks__180 ⟨Nat.le_refl _, Nat.le_refl _⟩ (fun u H locs hp hw => ?_)
      obtain rfl := hp
      exact hp_vret cx hw (md_retv h) dX12_asks__183
    · have h := md_in c166 h
      refine lv_aload_n cx.1 cx.2.1 dX12_asks__169 rfl (lv_at hl 0 rfl) ?_
      refine lv_iconst (v := 0) cx.1 cx.2.1 dX12_asks__170 (by decide) ?_
      refine lv_iconst (v := 1) cx.1 cx.2.1 dX12_asks__171 (by decide) ?_
      obtain ⟨p3, e_p3, h⟩ := md_ob h
      refine hp_callVv (As := [.int 0, .int 1]) (rest := []) cx hw (km_X12_push l D cA E _ ad hj hE n p1.2 (0 : Int32) (1 : Int32) p3 e_p3) (cwV 2 cx.2.2.2.2.2.1 (md_giV mm_558 mm_559 mm_560 mm_5 mm_561) rfl rfl rfl hd_X12_push ⟨Nat.le_of_ble_eq_true rfl, Nat.le_of_ble_eq_true rfl⟩) md_at0 rfl rfl hl.1 rfl (Nat.le_of_ble_eq_true rfl) dX12_asks__172 ⟨Nat.le_refl _, Nat.le_refl _⟩ (fun u H locs hp hw => ?_)
      obtain rfl := hp
      refine lv_goto (tgt := 183) cx.1 cx.2.1 dX12_asks__175 (by decide) ?_
      exact hp_vret cx hw (md_retv h) dX12_asks__183
  have J142 : ∀ (σ : md_S) (t0 : Int32) (t1 : Int32) (H : Heap) (locs : List Loc) (ls : Array Slot), f_X12_asks__J142 n σ t0 t1 = some p → hp_w D vwCl (hp_Tl cA) E (hp_A (md_pic cA ad σ0) sz) ss H locs (md_pic cA ad σ) → lv_has ls 8 [] → W pp l ee ({ frames := 4, cells := 0, slots := 0, locals := 101 }) ss mm [.ref (ad 137), .int a1, .int a2].toArray bb mt cd H locs 0 0 (MQ bb (hp_Qv D vwCl (hp_Tl cA) sz (md_pic cA ad σ0) (fun u => u = md_pic cA ad p.2)) [.ref (ad 137), .int a1, .int a2].toArray ss 0 0 (hp_A (md_pic cA ad σ0) sz)) (F0 mm 142 ls [.int t0, .int t1, .ref (ad 137)]) := by
    intro σ t0 t1 H locs ls h hw hl
    obtain ⟨p4, e_p4, h⟩ := md_ob h
    refine hp_callVv (As := [.int t1, .int t0]) (rest := []) cx hw (km_X12_push l D cA E _ ad hj hE n σ t1 t0 p4 e_p4) (cwV 2 cx.2.2.2.2.2.1 (md_giV mm_558 mm_559 mm_560 mm_5 mm_561) rfl rfl rfl hd_X12_push ⟨Nat.le_of_ble_eq_true rfl, Nat.le_of_ble_eq_true rfl⟩) md_at0 rfl rfl hl.1 rfl (Nat.le_of_ble_eq_true rfl) dX12_asks__142 ⟨Nat.le_refl _, Nat.le_refl _⟩ (fun u H locs hp hw => ?_)
    obtain rfl := hp
    exact hp_vret cx hw (md_retv h) dX12_asks__145
  have J122 : ∀ (σ : md_S) (l1 : Int32) (l2 : Int32) (l4 : Int32) (t0 : Int32) (H : Heap) (locs : List Loc) (ls : Array Slot), f_X12_asks__J122 n σ l1 l2 l4 t0 = some p → hp_w D vwCl (hp_Tl cA) E (hp_A (md_pic cA ad σ0) sz) ss H locs (md_pic cA ad σ) → lv_has ls 8 [(0, .ref (ad 137)), (1, .int l1), (2, .int l2), (4, .int l4)] → W pp l ee ({ frames := 4, cells := 0, slots := 0, locals := 101 }) ss mm [.ref (ad 137), .int a1, .int a2].toArray bb mt cd H locs 0 0 (MQ bb (hp_Qv D vwCl (hp_Tl cA) sz (md_pic cA ad σ0) (fun u => u = md_pic cA ad p.2)) [.ref (ad 137), .int a1, .int a2].toArray ss 0 0 (hp_A (md_pic cA ad σ0) sz)) (F0 mm 122 ls [.int t0]) := by
    intro σ l1 l2 l4 t0 H locs ls h hw hl
    refine lv_istore (lv' := [(7, .int t0), (0, .ref (ad 137)), (1, .int l1), (2, .int l2), (4, .int l4)]) cx.1 cx.2.1 dX12_asks__122 hl (by decide) rfl (fun ls hl => ?_)
    refine lv_iload_n cx.1 cx.2.1 dX12_asks__124 rfl (lv_at hl 2 rfl) ?_
    refine lv_bipush (v := 26) cx.1 cx.2.1 dX12_asks__125 (by decide) ?_
    refine lv_icmp_ne (tgt := 146) cx.1 cx.2.1 dX12_asks__127 (by decide) (fun c127 => ?_) (fun c127 => ?_)
    · have h := md_in c127 h
      refine lv_aload_n cx.1 cx.2.1 dX12_asks__146 rfl (lv_at hl 1 rfl) ?_
      refine lv_iconst (v := 1) cx.1 cx.2.1 dX12_asks__147 (by decide) ?_
      refine lv_iload cx.1 cx.2.1 dX12_asks__148 (lv_at hl 0 rfl) ?_
      refine lv_if_eq (tgt := 157) cx.1 cx.2.1 dX12_asks__150 (by decide) (fun c150 => ?_) (fun c150 => ?_)
      · have h := md_ip c150 h
        refine lv_iconst (v := 0) cx.1 cx.2.1 dX12_asks__157 (by decide) ?_
        exact J158 σ l2 l4 t0 0 1 _ _ _ h hw (lv_sub hl [1, 3, 4, 0] rfl)
      · have h := md_in c150 h
        refine lv_iconst (v := 1) cx.1 cx.2.1 dX12_asks__153 (by decide) ?_
        refine lv_goto (tgt := 158) cx.1 cx.2.1 dX12_asks__154 (by decide) ?_
        exact J158 σ l2 l4 t0 1 1 _ _ _ h hw (lv_sub hl [1, 3, 4, 0] rfl)
    · have h := md_ip c127 h
      refine lv_aload_n cx.1 cx.2.1 dX12_asks__130 rfl (lv_at hl 1 rfl) ?_
      refine lv_iconst (v := 0) cx.1 cx.2.1 dX12_asks__131 (by decide) ?_
      refine lv_iload cx.1 cx.2.1 dX12_asks__132 (lv_at hl 0 rfl) ?_
      refine lv_if_eq (tgt := 141) cx.1 cx.2.1 dX12_asks__134 (by decide) (fun c134 => ?_) (fun c134 => ?_)
      · have h := md_ip c134 h
        refine lv_iconst (v := 0) cx.1 cx.2.1 dX12_asks__141 (by decide) ?_
        exact J142 σ 0 0 _ _ _ h hw (lv_sub hl [] rfl)
      · have h := md_in c134 h
        refine lv_iconst (v := 1) cx.1 cx.2.1 dX12_asks__137 (by decide) ?_
        refine lv_goto (tgt := 142) cx.1 cx.2.1 dX12_asks__138 (by decide) ?_
        exact J142 σ 1 0 _ _ _ h hw (lv_sub hl [] rfl)
  have J68 : ∀ (σ : md_S) (l1 : Int32) (l2 : Int32) (l4 : Int32) (l5 : Int32) (H : Heap) (locs : List Loc) (ls : Array Slot), f_X12_asks__J68 n σ l1 l2 l4 l5 = some p → hp_w D vwCl (hp_Tl cA) E (hp_A (md_pic cA ad σ0) sz) ss H locs (md_pic cA ad σ) → lv_has ls 8 [(0, .ref (ad 137)), (1, .int l1), (2, .int l2), (4, .int l4), (5, .int l5)] → W pp l ee ({ frames := 4, cells := 0, slots := 0, locals := 101 }) ss mm [.ref (ad 137), .int a1, .int a2].toArray bb mt cd H locs 0 0 (MQ bb (hp_Qv D vwCl (hp_Tl cA) sz (md_pic cA ad σ0) (fun u => u = md_pic cA ad p.2)) [.ref (ad 137), .int a1, .int a2].toArray ss 0 0 (hp_A (md_pic cA ad σ0) sz)) (F0 mm 68 ls []) := by
    intro σ l1 l2 l4 l5 H locs ls h hw hl
    refine lv_aload_n cx.1 cx.2.1 dX12_asks__68 rfl (lv_at hl 0 rfl) ?_
    refine lv_aload_n cx.1 cx.2.1 dX12_asks__69 rfl (lv_at hl 0 rfl) ?_
    refine md_gR (k := 49) cx hw hin12c (by decide) (by decide) (List.mem_cons_of_mem _ mm_241) dX12_asks__70 ?_
    refine lv_iload_n cx.1 cx.2.1 dX12_asks__73 rfl (lv_at hl 2 rfl) ?_
    obtain ⟨v5, e_v5, h⟩ := md_ob h
    refine md_lJ (k := 49) hj cx hw (by decide) rfl rfl rfl e_v5 dX12_asks__74 ?_
    refine lv_iload cx.1 cx.2.1 dX12_asks__75 (lv_at hl 4 rfl) ?_
    obtain ⟨p6, e_p6, h⟩ := md_ob h
    refine hp_callVi (As := [.long v5, .int l5]) (rest := []) cx hw (km_X12_bitsOf l D cA E _ ad hj hE n σ v5 l5 p6 e_p6) (cwV 2 cx.2.2.2.2.2.1 (md_giV mm_513 mm_514 mm_515 mm_5 mm_516) rfl rfl rfl hd_X12_bitsOf ⟨Nat.le_of_ble_eq_true rfl, Nat.le_of_ble_eq_true rfl⟩) md_at0 rfl rfl hl.1 rfl (Nat.le_of_ble_eq_true rfl) dX12_asks__77 ⟨Nat.le_refl _, Nat.le_refl _⟩ (fun r u H locs hp hw => ?_)
    obtain ⟨rfl, rfl⟩ := hp
    refine lv_istore (lv' := [(6, .int p6.1), (0, .ref (ad 137)), (1, .int l1), (2, .int l2), (4, .int l4), (5, .int l5)]) cx.1 cx.2.1 dX12_asks__80 hl (by decide) rfl (fun ls hl => ?_)
    refine lv_aload_n cx.1 cx.2.1 dX12_asks__82 rfl (lv_at hl 1 rfl) ?_
    refine md_gI (k := 87) cx hw hin12c rfl (by decide) (List.mem_cons_of_mem _ mm_582) dX12_asks__83 ?_
    refine lv_if_eq (tgt := 107) cx.1 cx.2.1 dX12_asks__86 (by decide) (fun c86 => ?_) (fun c86 => ?_)
    · have h := md_ip c86 h
      refine lv_aload_n cx.1 cx.2.1 dX12_asks__107 rfl (lv_at hl 1 rfl) ?_
      refine lv_aload_n cx.1 cx.2.1 dX12_asks__108 rfl (lv_at hl 1 rfl) ?_
      refine md_gR (k := 115) cx hw hin12c (by decide) (by decide) (List.mem_cons_of_mem _ mm_580) dX12_asks__109 ?_
      refine lv_aload_n cx.1 cx.2.1 dX12_asks__112 rfl (lv_at hl 1 rfl) ?_
      obtain ⟨p7, e_p7, h⟩ := md_ob h
      refine hp_callVi (As := []) (rest := [.ref (ad 115), .ref (ad 137)]) cx hw (km_X12_frameAt l D cA E _ ad hj hE n p6.2  p7 e_p7) (cwV 0 cx.2.2.2.2.2.1 (md_giV mm_551 mm_552 mm_553 mm_5 mm_554) rfl rfl rfl hd_X12_frameAt ⟨Nat.le_of_ble_eq_true rfl, Nat.le_of_ble_eq_true rfl⟩) md_at0 rfl rfl hl.1 rfl (Nat.le_of_ble_eq_true rfl) dX12_asks__113 ⟨Nat.le_refl _, Nat.le_refl _⟩ (fun r u H locs hp hw => ?_)
      obtain ⟨rfl, rfl⟩ := hp
      obtain ⟨v8, e_v8, h⟩ := md_ob h
      refine md_lI (k := 115) hj cx hw (by decide) rfl rfl rfl e_v8 dX12_asks__116 ?_
      refine lv_iload cx.1 cx.2.1 dX12_asks__117 (lv_at hl 0 rfl) ?_
      obtain ⟨p9, e_p9, h⟩ := md_ob h
      refine hp_callVi (As := [.int v8, .int p6.1]) (rest := []) cx hw (km_X12_isGrantedIn l D cA E _ ad hj hE n p7.2 v8 (p6.1) p9 e_p9) (cwV 2 cx.2.2.2.2.2.1 (md_giV mm_630 mm_631 mm_632 mm_5 mm_633) rfl rfl rfl hd_X12_isGrantedIn ⟨Nat.le_of_ble_eq_true rfl, Nat.le_of_ble_eq_true rfl⟩) md_at0 rfl rfl hl.1 rfl (Nat.le_of_ble_eq_true rfl) dX12_asks__119 ⟨Nat.le_refl _, Nat.le_refl _⟩ (fun r u H locs hp hw => ?_)
      obtain ⟨rfl, rfl⟩ := hp
      exact J122 p9.2 l1 l2 l4 (p9.1) _ _ _ h hw (lv_sub hl [1, 2, 3, 4] rfl)
    · have h := md_in c86 h
      refine lv_aload_n cx.1 cx.2.1 dX12_asks__89 rfl (lv_at hl 1 rfl) ?_
      refine lv_aload_n cx.1 cx.2.1 dX12_asks__90 rfl (lv_at hl 1 rfl) ?_
      refine md_gR (k := 116) cx hw hin12c (by decide) (by decide) (List.mem_cons_of_mem _ mm_581) dX12_asks__91 ?_
      refine lv_aload_n cx.1 cx.2.1 dX12_asks__94 rfl (lv_at hl 1 rfl) ?_
      obtain ⟨p10, e_p10, h⟩ := md_ob h
      refine hp_callVi (As := []) (rest := [.ref (ad 116), .ref (ad 137)]) cx hw (km_X12_frameAt l D cA E _ ad hj hE n p6.2  p10 e_p10) (cwV 0 cx.2.2.2.2.2.1 (md_giV mm_551 mm_552 mm_553 mm_5 mm_554) rfl rfl rfl hd_X12_frameAt ⟨Nat.le_of_ble_eq_true rfl, Nat.le_of_ble_eq_true rfl⟩) md_at0 rfl rfl hl.1 rfl (Nat.le_of_ble_eq_true rfl) dX12_asks__95 ⟨Nat.le_refl _, Nat.le_refl _⟩ (fun r u H locs hp hw => ?_)
      obtain ⟨rfl, rfl⟩ := hp
      obtain ⟨v11, e_v11, h⟩ := md_ob h
      refine md_lI (k := 116) hj cx hw (by decide) rfl rfl rfl e_v11 dX12_asks__98 ?_
      refine lv_iload cx.1 cx.2.1 dX12_asks__99 (lv_at hl 0 rfl) ?_
      obtain ⟨p12, e_p12, h⟩ := md_ob h
      refine hp_callVi (As := [.int v11, .int p6.1]) (rest := []) cx hw (km_X12_isGrantedBy l D cA E _ ad hj hE n p10.2 v11 (p6.1) p12 e_p12) (cwV 2 cx.2.2.2.2.2.1 (md_giV mm_634 mm_635 mm_636 mm_5 mm_637) rfl rfl rfl hd_X12_isGrantedBy ⟨Nat.le_of_ble_eq_true rfl, Nat.le_of_ble_eq_true rfl⟩) md_at0 rfl rfl hl.1 rfl (Nat.le_of_ble_eq_true rfl) dX12_asks__101 ⟨Nat.le_refl _, Nat.le_refl _⟩ (fun r u H locs hp hw => ?_)
      obtain ⟨rfl, rfl⟩ := hp
      refine lv_goto (tgt := 122) cx.1 cx.2.1 dX12_asks__104 (by decide) ?_
      exact J122 p12.2 l1 l2 l4 (p12.1) _ _ _ h hw (lv_sub hl [1, 2, 3, 4] rfl)
  have J43 : ∀ (σ : md_S) (H : Heap) (locs : List Loc) (ls : Array Slot), f_X12_asks__J43 n σ = some p → hp_w D vwCl (hp_Tl cA) E (hp_A (md_pic cA ad σ0) sz) ss H locs (md_pic cA ad σ) → lv_has ls 8 [(0, .ref (ad 137))] → W pp l ee ({ frames := 4, cells := 0, slots := 0, locals := 101 }) ss mm [.ref (ad 137), .int a1, .int a2].toArray bb mt cd H locs 0 0 (MQ bb (hp_Qv D vwCl (hp_Tl cA) sz (md_pic cA ad σ0) (fun u => u = md_pic cA ad p.2)) [.ref (ad 137), .int a1, .int a2].toArray ss 0 0 (hp_A (md_pic cA ad σ0) sz)) (F0 mm 43 ls []) := by
    intro σ H locs ls h hw hl
    refine lv_aload_n cx.1 cx.2.1 dX12_asks__43 rfl (lv_at hl 0 rfl) ?_
    refine lv_iconst (v := 5) cx.1 cx.2.1 dX12_asks__44 (by decide) ?_
    obtain ⟨p13, e_p13, h⟩ := md_ob h
    refine hp_callVv (As := [.int 5]) (rest := []) cx hw (km_X12_failure l D cA E _ ad hj hE n σ (5 : Int32) p13 e_p13) (cwV 1 cx.2.2.2.2.2.1 (md_giV mm_575 mm_576 mm_577 mm_5 mm_578) rfl rfl rfl hd_X12_failure ⟨Nat.le_of_ble_eq_true rfl, Nat.le_of_ble_eq_true rfl⟩) md_at0 rfl rfl hl.1 rfl (Nat.le_of_ble_eq_true rfl) dX12_asks__45 ⟨Nat.le_refl _, Nat.le_refl _⟩ (fun u H locs hp hw => ?_)
    obtain rfl := hp
    exact hp_vret cx hw (md_retv h) dX12_asks__48
  refine lv_aload_n cx.1 cx.2.1 dX12_asks__0 rfl (lv_at hl 0 rfl) ?_
  refine md_gR (k := 136) cx hw hin12c (by decide) (by decide) (List.mem_cons_of_mem _ mm_242) dX12_asks__1 ?_
  refine lv_iload_n cx.1 cx.2.1 dX12_asks__4 rfl (lv_at hl 2 rfl) ?_
  obtain ⟨v14, e_v14, h⟩ := md_ob h
  refine md_lZ (k := 136) hj cx hw (by decide) rfl rfl rfl e_v14 dX12_asks__5 ?_
  refine lv_istore_n (lv' := [(3, .int v14), (0, .ref (ad 137)), (1, .int a1), (2, .int a2)]) cx.1 cx.2.1 dX12_asks__6 rfl hl (by decide) rfl (fun ls hl => ?_)
  refine lv_iconst (v := (-1)) cx.1 cx.2.1 dX12_asks__7 (by decide) ?_
  refine lv_istore (lv' := [(4, .int (-1)), (3, .int v14), (0, .ref (ad 137)), (1, .int a1), (2, .int a2)]) cx.1 cx.2.1 dX12_asks__8 hl (by decide) rfl (fun ls hl => ?_)
  refine lv_sipush (v := 240) cx.1 cx.2.1 dX12_asks__10 (by decide) ?_
  refine lv_iload_n cx.1 cx.2.1 dX12_asks__13 rfl (lv_at hl 4 rfl) ?_
  refine lv_iadd cx.1 cx.2.1 dX12_asks__14 ?_
  refine lv_istore (lv' := [(5, .int ((240 : Int32) + a2)), (4, .int (-1)), (3, .int v14), (0, .ref (ad 137)), (1, .int a1), (2, .int a2)]) cx.1 cx.2.1 dX12_asks__15 hl (by decide) rfl (fun ls hl => ?_)
  refine lv_iload_n cx.1 cx.2.1 dX12_asks__17 rfl (lv_at hl 2 rfl) ?_
  refine lv_if_eq (tgt := 68) cx.1 cx.2.1 dX12_asks__18 (by decide) (fun c18 => ?_) (fun c18 => ?_)
  · have h := md_ip c18 h
    exact J68 σ0 a1 a2 ((-1)) (((240 : Int32) + a2)) _ _ _ h hw (lv_sub hl [3, 4, 5, 1, 0] rfl)
  · have h := md_in c18 h
    refine lv_aload_n cx.1 cx.2.1 dX12_asks__21 rfl (lv_at hl 3 rfl) ?_
    obtain ⟨p15, e_p15, h⟩ := md_ob h
    refine hp_callVi (As := []) (rest := []) cx hw (km_X12_pop l D cA E _ ad hj hE n σ0  p15 e_p15) (cwV 0 cx.2.2.2.2.2.1 (md_giV mm_613 mm_614 mm_615 mm_5 mm_616) rfl rfl rfl hd_X12_pop ⟨Nat.le_of_ble_eq_true rfl, Nat.le_of_ble_eq_true rfl⟩) md_at0 rfl rfl hl.1 rfl (Nat.le_of_ble_eq_true rfl) dX12_asks__22 ⟨Nat.le_refl _, Nat.le_refl _⟩ (fun r u H locs hp hw => ?_)
    obtain ⟨rfl, rfl⟩ := hp
    refine lv_if_ne (tgt := 43) cx.1 cx.2.1 dX12_asks__25 (by decide) (fun c25 => ?_) (fun c25 => ?_)
    · have h := md_in c25 h
      exact J43 p15.2 _ _ _ h hw (lv_sub hl [3] rfl)
    · have h := md_ip c25 h
      refine lv_aload_n cx.1 cx.2.1 dX12_asks__28 rfl (lv_at hl 3 rfl) ?_
      refine md_gI (k := 135) cx hw hin12c rfl (by decide) (List.mem_cons_of_mem _ mm_543) dX12_asks__29 ?_
      refine lv_i2l (v := ((mI p15.2 135).toInt64)) cx.1 cx.2.1 dX12_asks__32 rfl ?_
      refine lv_lconst (v := 0) cx.1 cx.2.1 dX12_asks__33 (by decide) ?_
      refine lv_ldc2 cx.1 cx.2.1 cx.2.2.2.2.1 (cx.2.2.2.2.2.1 _ (List.mem_cons_of_mem _ mm_625)) dX12_asks__34 ?_
      obtain ⟨p16, e_p16, h⟩ := md_ob h
      refine hp_callSi (As := [.long ((mI p15.2 135).toInt64), .long 0, .long 999]) (rest := []) cx hw (km_X12_in l D cA E _ ad hj hE n p15.2 (((mI p15.2 135).toInt64)) (0 : Int64) (999 : Int64) p16 e_p16) (cwS 3 cx.2.2.2.2.2.1 (md_giS mm_3 mm_4 mm_5 mm_6) rfl rfl rfl hd_X12_in ⟨Nat.le_of_ble_eq_true rfl, Nat.le_of_ble_eq_true rfl⟩) rfl hl.1 rfl (Nat.le_of_ble_eq_true rfl) dX12_asks__37 ⟨Nat.le_refl _, Nat.le_refl _⟩ (fun r u H locs hp hw => ?_)
      obtain ⟨rfl, rfl⟩ := hp
      refine lv_if_ne (tgt := 49) cx.1 cx.2.1 dX12_asks__40 (by decide) (fun c40 => ?_) (fun c40 => ?_)
      · have h := md_in c40 h
        refine lv_aload_n cx.1 cx.2.1 dX12_asks__49 rfl (lv_at hl 3 rfl) ?_
        refine md_gI (k := 135) cx hw hin12c rfl (by decide) (List.mem_cons_of_mem _ mm_543) dX12_asks__50 ?_
        refine lv_istore (lv' := [(4, .int (mI p16.2 135)), (5, .int ((240 : Int32) + a2)), (3, .int v14), (0, .ref (ad 137)), (1, .int a1), (2, .int a2)]) cx.1 cx.2.1 dX12_asks__53 hl (by decide) rfl (fun ls hl => ?_)
        refine lv_aload_n cx.1 cx.2.1 dX12_asks__55 rfl (lv_at hl 3 rfl) ?_
        refine lv_iload cx.1 cx.2.1 dX12_asks__56 (lv_at hl 1 rfl) ?_
        refine lv_iload cx.1 cx.2.1 dX12_asks__58 (lv_at hl 0 rfl) ?_
        obtain ⟨p17, e_p17, h⟩ := md_ob h
        refine hp_callVv (As := [.int ((240 : Int32) + a2), .int (mI p16.2 135)]) (rest := []) cx hw (km_X12_placeWith l D cA E _ ad hj hE n p16.2 (((240 : Int32) + a2)) ((mI p16.2 135)) p17 e_p17) (cwV 2 cx.2.2.2.2.2.1 (md_giV mm_626 mm_627 mm_628 mm_5 mm_629) rfl rfl rfl hd_X12_placeWith ⟨Nat.le_of_ble_eq_true rfl, Nat.le_of_ble_eq_true rfl⟩) md_at0 rfl rfl hl.1 rfl (Nat.le_of_ble_eq_true rfl) dX12_asks__60 ⟨Nat.le_refl _, Nat.le_refl _⟩ (fun u H locs hp hw => ?_)
        obtain rfl := hp
        refine lv_sipush (v := 265) cx.1 cx.2.1 dX12_asks__63 (by decide) ?_
        refine lv_istore (lv' := [(5, .int 265), (4, .int (mI p16.2 135)), (3, .int v14), (0, .ref (ad 137)), (1, .int a1), (2, .int a2)]) cx.1 cx.2.1 dX12_asks__66 hl (by decide) rfl (fun ls hl => ?_)
        exact J68 p17.2 a1 a2 ((mI p16.2 135)) 265 _ _ _ h hw (lv_sub hl [3, 4, 5, 1, 0] rfl)
      · have h := md_ip c40 h
        exact J43 p16.2 _ _ _ h hw (lv_sub hl [3] rfl)
