set_option maxHeartbeats 4000000 in
set_option maxRecDepth 100000 in
theorem lc_6 {p : Program} {l : Launch} {e : Env} {s : State} {m : MethodId} {below : List Frame} {meth : Method} {c : Code} {b L k n : Nat} {xs : Nat → Int32} (C0 : lw_At p s m meth c b L xs) (hL : L ≤ 384) (hk : 6 * k + 5 < L) {D : va_G} {cA : Nat → ClassId} {E : hp_N} {oq sgq sgv : Nat} (hG : cd_E E oq sgq sgv) (hM : md_E E) (hX1 : cd_X l E) (hX2 : cd_Y l E) (hnc : ∀ A U H, E A U H → va_Nc "java/lang/IllegalArgumentException" "java/lang/IllegalStateException" U) {ad : Nat → Nat → Nat} {am : Nat → Nat} {o : Nat} {C : Nat × Nat} (hjm : md_inj am) (hC : LC C) (hn : 60000000 ≤ n) (cx : hp_C p c cL_law meth ret 7 s m #[Value.ref b] ⟨RL, meth.name, ""⟩ lw_tbl) {g : hp_M} {H : Heap} {locs : List Loc} {ls : Array Slot} {cells slots : Nat} {bb : cd_B} (hw : hp_w D vwCl (hp_Tl cA) E (fun q => s.heap.size ≤ q) s H locs g) (hI : lw_I n cA ad am o C k g bb) (hl : lv_has ls 7 [(4, .int (nI (6 * k))), (3, .ref o), (2, .ref (am 137)), (1, .ref (ad 11 0)), (0, .ref b)]) (hcc : cells + bb.1 ≤ 600128) (hss : slots + bb.2 ≤ 7301097) (K : lw_K p l e s m below meth c b D cA E ad am o C n k) : W p l e room_1 s m #[Value.ref b] below meth c H locs cells slots (lw_Z below #[Value.ref b] s) (F0 m 353 ls []) := by
  obtain ⟨hx, hb, hr, hml, hown, hts, hX, hbl, hlocks, hgv⟩ := id C0
  have hbA : ¬ (fun q : Nat => s.heap.size ≤ q) b := Nat.not_le.mpr hbl
  obtain ⟨ca, c1, m1, f, hLW, hJ⟩ := hI
  have hk64 : k < 64 := by omega
  obtain ⟨hLT, t_fault, t_number, t_domain, t_unit, t_code, t_has, t_result, t_event, t_context, t_thread, t_count⟩ := law_tell (by omega) hLW (xs (6 * k + 1)) (lbz (xs (6 * k + 2))) (xs (6 * k + 3))
  obtain ⟨r, e1, e2⟩ := t_code
  obtain ⟨m2, em⟩ : ∃ m2, m2 = mSI m1 0 0 := ⟨_, rfl⟩
  rw [← em] at e2 hLT
  have hLW2 := hLT
  obtain ⟨c2, ec⟩ : ∃ c2, c2 = c1 := ⟨c1, rfl⟩
  have e1 : f_X11_code n c1 (xs (6 * k + 1)) (lbz (xs (6 * k + 2))) (xs (6 * k + 3)) = some (r, c2) := by rw [ec]; exact e1
  rw [← ec] at hLW2
  refine lv_aload_n cx.1 cx.2.1 dL_law_353 rfl (lv_at hl 3 rfl) ?_
  refine lw_sc cx hw hX hbl hbA hl (i0 := 4) (i4 := 0) rfl rfl hk hL (j := 1) (by decide) (by decide) dL_law_354 dL_law_355 dL_law_357 dL_law_358 dL_law_359 ?_
  refine lw_sc cx hw hX hbl hbA hl (i0 := 4) (i4 := 0) rfl rfl hk hL (j := 2) (by decide) (by decide) dL_law_360 dL_law_361 dL_law_363 dL_law_364 dL_law_365 ?_
  refine lw_bool (tz := 373) (tj := 374) cx dL_law_366 (by decide) dL_law_369 dL_law_370 (by decide) dL_law_373 rfl ?_
  refine lw_sc cx hw hX hbl hbA hl (i0 := 4) (i4 := 0) rfl rfl hk hL (j := 3) (by decide) (by decide) dL_law_374 dL_law_375 dL_law_377 dL_law_378 dL_law_379 ?_
  refine hp_callFj (g1 := cd_pic cA ad ca c1) (As := [.int (xs (6 * k + 1)), .int (lbz (xs (6 * k + 2))), .int (xs (6 * k + 3))]) (rest := []) cx hw hJ.2.1 (kc_X11_code l D cA E _ ad ca hJ.1 oq sgq sgv hG n c1 (xs (6 * k + 1)) (lbz (xs (6 * k + 2))) (xs (6 * k + 3)) (r, c2) e1) (cwV 3 cx.2.2.2.2.2.1 gl_58 rfl rfl rfl (by decide +kernel) ⟨Nat.le_of_ble_eq_true rfl, Nat.le_of_ble_eq_true rfl⟩) (hJ.2.1 _ _ (cd_atO hJ.1 (by decide) (by decide))) rfl rfl hl.1 rfl (Nat.le_of_ble_eq_true rfl) dL_law_380 ⟨by show cells + 0 ≤ 600128; omega, by show slots + 0 ≤ 7301097; omega⟩ (fun r1 u2 g3 H locs hp4 ha5 hb6 hc7 hw => ?_)
  obtain ⟨er1, ca2, hj2, eu⟩ := hp4
  subst eu
  have hJ1 : lw_J cA ad am o ca2 c2 m1 f g3 := hJ.cls hj2 ha5 hb6 hc7
  refine lv_aload_n cx.1 cx.2.1 dL_law_383 rfl (lv_at hl 2 rfl) ?_
  refine lw_sc cx hw hX hbl hbA hl (i0 := 4) (i4 := 0) rfl rfl hk hL (j := 1) (by decide) (by decide) dL_law_384 dL_law_385 dL_law_387 dL_law_388 dL_law_389 ?_
  refine lw_sc cx hw hX hbl hbA hl (i0 := 4) (i4 := 0) rfl rfl hk hL (j := 2) (by decide) (by decide) dL_law_390 dL_law_391 dL_law_393 dL_law_394 dL_law_395 ?_
  refine lw_bool (tz := 403) (tj := 404) cx dL_law_396 (by decide) dL_law_399 dL_law_400 (by decide) dL_law_403 rfl ?_
  refine lw_sc cx hw hX hbl hbA hl (i0 := 4) (i4 := 0) rfl rfl hk hL (j := 3) (by decide) (by decide) dL_law_404 dL_law_405 dL_law_407 dL_law_408 dL_law_409 ?_
  refine hp_callFj (g1 := md_pic cA am m1) (As := [.int (xs (6 * k + 1)), .int (lbz (xs (6 * k + 2))), .int (xs (6 * k + 3))]) (rest := [.int r1]) cx hw hJ1.2.2.1 (km_X12_code l D cA E _ am hjm hM n m1 (xs (6 * k + 1)) (lbz (xs (6 * k + 2))) (xs (6 * k + 3)) (r, m2) e2) (cwV 3 cx.2.2.2.2.2.1 gl_62 rfl rfl rfl (by decide +kernel) ⟨Nat.le_of_ble_eq_true rfl, Nat.le_of_ble_eq_true rfl⟩) (hJ1.2.2.1 _ _ md_at0) rfl rfl hl.1 rfl (Nat.le_of_ble_eq_true rfl) dL_law_410 ⟨by show cells + 0 + 0 ≤ 600128; omega, by show slots + 0 + 0 ≤ 7301097; omega⟩ (fun r8 u9 g10 H locs hp11 ha12 hb13 hc14 hw => ?_)
  obtain ⟨er2, eu⟩ := hp11
  subst eu
  have hJ2 : lw_J cA ad am o ca2 c2 m2 f g10 := hJ1.mdl ha12 hb13
  refine lv_icmp_eq (tgt := 803) cx.1 cx.2.1 dL_law_413 (by decide) (fun _ => ?_) (fun ck => absurd (er1.trans er2.symm) ck)
  exact K _ _ _ _ _ _ bb hw ⟨ca2, c2, m2, f, hLW2, hJ2⟩ (lv_sub hl [0, 1, 2, 3, 4] rfl) (by show cells + 0 + 0 + bb.1 ≤ 600128; omega) (by show slots + 0 + 0 + bb.2 ≤ 7301097; omega)
set_option maxHeartbeats 4000000 in
set_option maxRecDepth 100000 in
theorem lc_7 {p : Program} {l : Launch} {e : Env} {s : State} {m : MethodId} {below : List Frame} {meth : Method} {c : Code} {b L k n : Nat} {xs : Nat → Int32} (C0 : lw_At p s m meth c b L xs) (hL : L ≤ 384) (hk : 6 * k + 5 < L) {D : va_G} {cA : Nat → ClassId} {E : hp_N} {oq sgq sgv : Nat} (hG : cd_E E oq sgq sgv) (hM : md_E E) (hX1 : cd_X l E) (hX2 : cd_Y l E) (hnc : ∀ A U H, E A U H → va_Nc "java/lang/IllegalArgumentException" "java/lang/IllegalStateException" U) {ad : Nat → Nat → Nat} {am : Nat → Nat} {o : Nat} {C : Nat × Nat} (hjm : md_inj am) (hC : LC C) (hn : 60000000 ≤ n) (cx : hp_C p c cL_law meth ret 7 s m #[Value.ref b] ⟨RL, meth.name, ""⟩ lw_tbl) {g : hp_M} {H : Heap} {locs : List Loc} {ls : Array Slot} {cells slots : Nat} {bb : cd_B} (hw : hp_w D vwCl (hp_Tl cA) E (fun q => s.heap.size ≤ q) s H locs g) (hI : lw_I n cA ad am o C k g bb) (hl : lv_has ls 7 [(4, .int (nI (6 * k))), (3, .ref o), (2, .ref (am 137)), (1, .ref (ad 11 0)), (0, .ref b)]) (hcc : cells + bb.1 ≤ 600128) (hss : slots + bb.2 ≤ 7301097) (K : lw_K p l e s m below meth c b D cA E ad am o C n k) : W p l e room_1 s m #[Value.ref b] below meth c H locs cells slots (lw_Z below #[Value.ref b] s) (F0 m 418 ls []) := by
  obtain ⟨hx, hb, hr, hml, hown, hts, hX, hbl, hlocks, hgv⟩ := id C0
  have hbA : ¬ (fun q : Nat => s.heap.size ≤ q) b := Nat.not_le.mpr hbl
  obtain ⟨ca, c1, m1, f, hLW, hJ⟩ := hI
  have hk64 : k < 64 := by omega
  obtain ⟨hLT, t_fault, t_number, t_domain, t_unit, t_code, t_has, t_result, t_event, t_context, t_thread, t_count⟩ := law_tell (by omega) hLW (xs (6 * k + 1)) (xs (6 * k + 2)) (xs (6 * k + 3))
  obtain ⟨r, e1, e2⟩ := t_number
  obtain ⟨m2, em⟩ : ∃ m2, m2 = mSI m1 0 0 := ⟨_, rfl⟩
  rw [← em] at e2 hLT
  have hLW2 := hLT
  obtain ⟨c2, ec⟩ : ∃ c2, c2 = c1 := ⟨c1, rfl⟩
  have e1 : f_X11_number n c1 (xs (6 * k + 1)) = some (r, c2) := by rw [ec]; exact e1
  rw [← ec] at hLW2
  refine lv_aload_n cx.1 cx.2.1 dL_law_418 rfl (lv_at hl 3 rfl) ?_
  refine lw_sc cx hw hX hbl hbA hl (i0 := 4) (i4 := 0) rfl rfl hk hL (j := 1) (by decide) (by decide) dL_law_419 dL_law_420 dL_law_422 dL_law_423 dL_law_424 ?_
  refine hp_callFj (g1 := cd_pic cA ad ca c1) (As := [.int (xs (6 * k + 1))]) (rest := []) cx hw hJ.2.1 (kc_X11_number l D cA E _ ad ca hJ.1 oq sgq sgv hG n c1 (xs (6 * k + 1)) (r, c2) e1) (cwV 1 cx.2.2.2.2.2.1 gl_63 rfl rfl rfl (by decide +kernel) ⟨Nat.le_of_ble_eq_true rfl, Nat.le_of_ble_eq_true rfl⟩) (hJ.2.1 _ _ (cd_atO hJ.1 (by decide) (by decide))) rfl rfl hl.1 rfl (Nat.le_of_ble_eq_true rfl) dL_law_425 ⟨by show cells + 0 ≤ 600128; omega, by show slots + 0 ≤ 7301097; omega⟩ (fun r1 u2 g3 H locs hp4 ha5 hb6 hc7 hw => ?_)
  obtain ⟨er1, ca2, hj2, eu⟩ := hp4
  subst eu
  have hJ1 : lw_J cA ad am o ca2 c2 m1 f g3 := hJ.cls hj2 ha5 hb6 hc7
  refine lv_aload_n cx.1 cx.2.1 dL_law_428 rfl (lv_at hl 2 rfl) ?_
  refine lw_sc cx hw hX hbl hbA hl (i0 := 4) (i4 := 0) rfl rfl hk hL (j := 1) (by decide) (by decide) dL_law_429 dL_law_430 dL_law_432 dL_law_433 dL_law_434 ?_
  refine hp_callFj (g1 := md_pic cA am m1) (As := [.int (xs (6 * k + 1))]) (rest := [.int r1]) cx hw hJ1.2.2.1 (km_X12_number l D cA E _ am hjm hM n m1 (xs (6 * k + 1)) (r, m2) e2) (cwV 1 cx.2.2.2.2.2.1 gl_66 rfl rfl rfl (by decide +kernel) ⟨Nat.le_of_ble_eq_true rfl, Nat.le_of_ble_eq_true rfl⟩) (hJ1.2.2.1 _ _ md_at0) rfl rfl hl.1 rfl (Nat.le_of_ble_eq_true rfl) dL_law_435 ⟨by show cells + 0 + 0 ≤ 600128; omega, by show slots + 0 + 0 ≤ 7301097; omega⟩ (fun r8 u9 g10 H locs hp11 ha12 hb13 hc14 hw => ?_)
  obtain ⟨er2, eu⟩ := hp11
  subst eu
  have hJ2 : lw_J cA ad am o ca2 c2 m2 f g10 := hJ1.mdl ha12 hb13
  refine lv_icmp_eq (tgt := 803) cx.1 cx.2.1 dL_law_438 (by decide) (fun _ => ?_) (fun ck => absurd (er1.trans er2.symm) ck)
  exact K _ _ _ _ _ _ bb hw ⟨ca2, c2, m2, f, hLW2, hJ2⟩ (lv_sub hl [0, 1, 2, 3, 4] rfl) (by show cells + 0 + 0 + bb.1 ≤ 600128; omega) (by show slots + 0 + 0 + bb.2 ≤ 7301097; omega)
set_option maxHeartbeats 4000000 in
set_option maxRecDepth 100000 in
theorem lc_8 {p : Program} {l : Launch} {e : Env} {s : State} {m : MethodId} {below : List Frame} {meth : Method} {c : Code} {b L k n : Nat} {xs : Nat → Int32} (C0 : lw_At p s m meth c b L xs) (hL : L ≤ 384) (hk : 6 * k + 5 < L) {D : va_G} {cA : Nat → ClassId} {E : hp_N} {oq sgq sgv : Nat} (hG : cd_E E oq sgq sgv) (hM : md_E E) (hX1 : cd_X l E) (hX2 : cd_Y l E) (hnc : ∀ A U H, E A U H → va_Nc "java/lang/IllegalArgumentException" "java/lang/IllegalStateException" U) {ad : Nat → Nat → Nat} {am : Nat → Nat} {o : Nat} {C : Nat × Nat} (hjm : md_inj am) (hC : LC C) (hn : 60000000 ≤ n) (cx : hp_C p c cL_law meth ret 7 s m #[Value.ref b] ⟨RL, meth.name, ""⟩ lw_tbl) {g : hp_M} {H : Heap} {locs : List Loc} {ls : Array Slot} {cells slots : Nat} {bb : cd_B} (hw : hp_w D vwCl (hp_Tl cA) E (fun q => s.heap.size ≤ q) s H locs g) (hI : lw_I n cA ad am o C k g bb) (hl : lv_has ls 7 [(4, .int (nI (6 * k))), (3, .ref o), (2, .ref (am 137)), (1, .ref (ad 11 0)), (0, .ref b)]) (hcc : cells + bb.1 ≤ 600128) (hss : slots + bb.2 ≤ 7301097) (K : lw_K p l e s m below meth c b D cA E ad am o C n k) : W p l e room_1 s m #[Value.ref b] below meth c H locs cells slots (lw_Z below #[Value.ref b] s) (F0 m 443 ls []) := by
  obtain ⟨hx, hb, hr, hml, hown, hts, hX, hbl, hlocks, hgv⟩ := id C0
  have hbA : ¬ (fun q : Nat => s.heap.size ≤ q) b := Nat.not_le.mpr hbl
  obtain ⟨ca, c1, m1, f, hLW, hJ⟩ := hI
  have hk64 : k < 64 := by omega
  obtain ⟨hLT, t_fault, t_number, t_domain, t_unit, t_code, t_has, t_result, t_event, t_context, t_thread, t_count⟩ := law_tell (by omega) hLW (xs (6 * k + 1)) (xs (6 * k + 2)) (xs (6 * k + 3))
  obtain ⟨r, e1, e2⟩ := t_domain
  obtain ⟨m2, em⟩ : ∃ m2, m2 = mSI m1 0 0 := ⟨_, rfl⟩
  rw [← em] at e2 hLT
  have hLW2 := hLT
  obtain ⟨c2, ec⟩ : ∃ c2, c2 = c1 := ⟨c1, rfl⟩
  have e1 : f_X11_domain n c1 (xs (6 * k + 1)) = some (r, c2) := by rw [ec]; exact e1
  rw [← ec] at hLW2
  refine lv_aload_n cx.1 cx.2.1 dL_law_443 rfl (lv_at hl 3 rfl) ?_
  refine lw_sc cx hw hX hbl hbA hl (i0 := 4) (i4 := 0) rfl rfl hk hL (j := 1) (by decide) (by decide) dL_law_444 dL_law_445 dL_law_447 dL_law_448 dL_law_449 ?_
  refine hp_callFj (g1 := cd_pic cA ad ca c1) (As := [.int (xs (6 * k + 1))]) (rest := []) cx hw hJ.2.1 (kc_X11_domain l D cA E _ ad ca hJ.1 oq sgq sgv hG n c1 (xs (6 * k + 1)) (r, c2) e1) (cwV 1 cx.2.2.2.2.2.1 gl_67 rfl rfl rfl (by decide +kernel) ⟨Nat.le_of_ble_eq_true rfl, Nat.le_of_ble_eq_true rfl⟩) (hJ.2.1 _ _ (cd_atO hJ.1 (by decide) (by decide))) rfl rfl hl.1 rfl (Nat.le_of_ble_eq_true rfl) dL_law_450 ⟨by show cells + 0 ≤ 600128; omega, by show slots + 0 ≤ 7301097; omega⟩ (fun r1 u2 g3 H locs hp4 ha5 hb6 hc7 hw => ?_)
  obtain ⟨er1, ca2, hj2, eu⟩ := hp4
  subst eu
  have hJ1 : lw_J cA ad am o ca2 c2 m1 f g3 := hJ.cls hj2 ha5 hb6 hc7
  refine lv_aload_n cx.1 cx.2.1 dL_law_453 rfl (lv_at hl 2 rfl) ?_
  refine lw_sc cx hw hX hbl hbA hl (i0 := 4) (i4 := 0) rfl rfl hk hL (j := 1) (by decide) (by decide) dL_law_454 dL_law_455 dL_law_457 dL_law_458 dL_law_459 ?_
  refine hp_callFj (g1 := md_pic cA am m1) (As := [.int (xs (6 * k + 1))]) (rest := [.int r1]) cx hw hJ1.2.2.1 (km_X12_domain l D cA E _ am hjm hM n m1 (xs (6 * k + 1)) (r, m2) e2) (cwV 1 cx.2.2.2.2.2.1 gl_70 rfl rfl rfl (by decide +kernel) ⟨Nat.le_of_ble_eq_true rfl, Nat.le_of_ble_eq_true rfl⟩) (hJ1.2.2.1 _ _ md_at0) rfl rfl hl.1 rfl (Nat.le_of_ble_eq_true rfl) dL_law_460 ⟨by show cells + 0 + 0 ≤ 600128; omega, by show slots + 0 + 0 ≤ 7301097; omega⟩ (fun r8 u9 g10 H locs hp11 ha12 hb13 hc14 hw => ?_)
  obtain ⟨er2, eu⟩ := hp11
  subst eu
  have hJ2 : lw_J cA ad am o ca2 c2 m2 f g10 := hJ1.mdl ha12 hb13
  refine lv_icmp_eq (tgt := 803) cx.1 cx.2.1 dL_law_463 (by decide) (fun _ => ?_) (fun ck => absurd (er1.trans er2.symm) ck)
  exact K _ _ _ _ _ _ bb hw ⟨ca2, c2, m2, f, hLW2, hJ2⟩ (lv_sub hl [0, 1, 2, 3, 4] rfl) (by show cells + 0 + 0 + bb.1 ≤ 600128; omega) (by show slots + 0 + 0 + bb.2 ≤ 7301097; omega)
set_option maxHeartbeats 4000000 in
set_option maxRecDepth 100000 in
theorem lc_9 {p : Program} {l : Launch} {e : Env} {s : State} {m : MethodId} {below : List Frame} {meth : Method} {c : Code} {b L k n : Nat} {xs : Nat → Int32} (C0 : lw_At p s m meth c b L xs) (hL : L ≤ 384) (hk : 6 * k + 5 < L) {D : va_G} {cA : Nat → ClassId} {E : hp_N} {oq sgq sgv : Nat} (hG : cd_E E oq sgq sgv) (hM : md_E E) (hX1 : cd_X l E) (hX2 : cd_Y l E) (hnc : ∀ A U H, E A U H → va_Nc "java/lang/IllegalArgumentException" "java/lang/IllegalStateException" U) {ad : Nat → Nat → Nat} {am : Nat → Nat} {o : Nat} {C : Nat × Nat} (hjm : md_inj am) (hC : LC C) (hn : 60000000 ≤ n) (cx : hp_C p c cL_law meth ret 7 s m #[Value.ref b] ⟨RL, meth.name, ""⟩ lw_tbl) {g : hp_M} {H : Heap} {locs : List Loc} {ls : Array Slot} {cells slots : Nat} {bb : cd_B} (hw : hp_w D vwCl (hp_Tl cA) E (fun q => s.heap.size ≤ q) s H locs g) (hI : lw_I n cA ad am o C k g bb) (hl : lv_has ls 7 [(4, .int (nI (6 * k))), (3, .ref o), (2, .ref (am 137)), (1, .ref (ad 11 0)), (0, .ref b)]) (hcc : cells + bb.1 ≤ 600128) (hss : slots + bb.2 ≤ 7301097) (K : lw_K p l e s m below meth c b D cA E ad am o C n k) : W p l e room_1 s m #[Value.ref b] below meth c H locs cells slots (lw_Z below #[Value.ref b] s) (F0 m 468 ls []) := by
  obtain ⟨hx, hb, hr, hml, hown, hts, hX, hbl, hlocks, hgv⟩ := id C0
  have hbA : ¬ (fun q : Nat => s.heap.size ≤ q) b := Nat.not_le.mpr hbl
  obtain ⟨ca, c1, m1, f, hLW, hJ⟩ := hI
  have hk64 : k < 64 := by omega
  obtain ⟨r, c2, b2, m2, e1, e2, ⟨hb1, hb2⟩, hLW2⟩ := law_asks hC (by omega) hk64 hLW
  have hq1 : cells + (bb.1 - b2.1) ≤ 600128 := by omega
  have hq2 : slots + (bb.2 - b2.2) ≤ 7301097 := by omega
  refine lv_aload_n cx.1 cx.2.1 dL_law_468 rfl (lv_at hl 3 rfl) ?_
  refine hp_callFj (g1 := cd_pic cA ad ca c1) (As := []) (rest := []) cx hw hJ.2.1 (kc_X11_asks l D cA E _ ad ca hJ.1 oq sgq sgv hG n c1 bb  (r, c2, b2) e1).2 (cwV 0 cx.2.2.2.2.2.1 gl_71 rfl rfl rfl (by decide +kernel) ⟨Nat.le_of_ble_eq_true rfl, Nat.le_of_ble_eq_true rfl⟩) (hJ.2.1 _ _ (cd_atO hJ.1 (by decide) (by decide))) rfl rfl hl.1 rfl (Nat.le_of_ble_eq_true rfl) dL_law_469 ⟨hq1, hq2⟩ (fun r1 u2 g3 H locs hp4 ha5 hb6 hc7 hw => ?_)
  obtain ⟨er1, ca2, hj2, eu⟩ := hp4
  subst eu
  have hJ1 : lw_J cA ad am o ca2 c2 m1 f g3 := hJ.cls hj2 ha5 hb6 hc7
  refine lv_aload_n cx.1 cx.2.1 dL_law_472 rfl (lv_at hl 2 rfl) ?_
  refine hp_callFj (g1 := md_pic cA am m1) (As := []) (rest := [.int r1]) cx hw hJ1.2.2.1 (km_X12_asks l D cA E _ am hjm hM n m1  (r, m2) e2) (cwV 0 cx.2.2.2.2.2.1 gl_75 rfl rfl rfl (by decide +kernel) ⟨Nat.le_of_ble_eq_true rfl, Nat.le_of_ble_eq_true rfl⟩) (hJ1.2.2.1 _ _ md_at0) rfl rfl hl.1 rfl (Nat.le_of_ble_eq_true rfl) dL_law_473 ⟨by show cells + (bb.1 - b2.1) + 0 ≤ 600128; omega, by show slots + (bb.2 - b2.2) + 0 ≤ 7301097; omega⟩ (fun r8 u9 g10 H locs hp11 ha12 hb13 hc14 hw => ?_)
  obtain ⟨er2, eu⟩ := hp11
  subst eu
  have hJ2 : lw_J cA ad am o ca2 c2 m2 f g10 := hJ1.mdl ha12 hb13
  refine lv_icmp_eq (tgt := 803) cx.1 cx.2.1 dL_law_476 (by decide) (fun _ => ?_) (fun ck => absurd (er1.trans er2.symm) ck)
  exact K _ _ _ _ _ _ b2 hw ⟨ca2, c2, m2, f, hLW2, hJ2⟩ (lv_sub hl [0, 1, 2, 3, 4] rfl) (by show cells + (bb.1 - b2.1) + 0 + b2.1 ≤ 600128; omega) (by show slots + (bb.2 - b2.2) + 0 + b2.2 ≤ 7301097; omega)
set_option maxHeartbeats 4000000 in
set_option maxRecDepth 100000 in
theorem lc_10 {p : Program} {l : Launch} {e : Env} {s : State} {m : MethodId} {below : List Frame} {meth : Method} {c : Code} {b L k n : Nat} {xs : Nat → Int32} (C0 : lw_At p s m meth c b L xs) (hL : L ≤ 384) (hk : 6 * k + 5 < L) {D : va_G} {cA : Nat → ClassId} {E : hp_N} {oq sgq sgv : Nat} (hG : cd_E E oq sgq sgv) (hM : md_E E) (hX1 : cd_X l E) (hX2 : cd_Y l E) (hnc : ∀ A U H, E A U H → va_Nc "java/lang/IllegalArgumentException" "java/lang/IllegalStateException" U) {ad : Nat → Nat → Nat} {am : Nat → Nat} {o : Nat} {C : Nat × Nat} (hjm : md_inj am) (hC : LC C) (hn : 60000000 ≤ n) (cx : hp_C p c cL_law meth ret 7 s m #[Value.ref b] ⟨RL, meth.name, ""⟩ lw_tbl) {g : hp_M} {H : Heap} {locs : List Loc} {ls : Array Slot} {cells slots : Nat} {bb : cd_B} (hw : hp_w D vwCl (hp_Tl cA) E (fun q => s.heap.size ≤ q) s H locs g) (hI : lw_I n cA ad am o C k g bb) (hl : lv_has ls 7 [(4, .int (nI (6 * k))), (3, .ref o), (2, .ref (am 137)), (1, .ref (ad 11 0)), (0, .ref b)]) (hcc : cells + bb.1 ≤ 600128) (hss : slots + bb.2 ≤ 7301097) (K : lw_K p l e s m below meth c b D cA E ad am o C n k) : W p l e room_1 s m #[Value.ref b] below meth c H locs cells slots (lw_Z below #[Value.ref b] s) (F0 m 481 ls []) := by
  obtain ⟨hx, hb, hr, hml, hown, hts, hX, hbl, hlocks, hgv⟩ := id C0
  have hbA : ¬ (fun q : Nat => s.heap.size ≤ q) b := Nat.not_le.mpr hbl
  obtain ⟨ca, c1, m1, f, hLW, hJ⟩ := hI
  have hk64 : k < 64 := by omega
  obtain ⟨hLT, t_fault, t_number, t_domain, t_unit, t_code, t_has, t_result, t_event, t_context, t_thread, t_count⟩ := law_tell (by omega) hLW (xs (6 * k + 1)) (lbz (xs (6 * k + 2))) (xs (6 * k + 3))
  obtain ⟨r, e1, e2⟩ := t_has
  obtain ⟨m2, em⟩ : ∃ m2, m2 = mSI m1 0 0 := ⟨_, rfl⟩
  rw [← em] at e2 hLT
  have hLW2 := hLT
  obtain ⟨c2, ec⟩ : ∃ c2, c2 = c1 := ⟨c1, rfl⟩
  have e1 : f_X11_has n c1 (xs (6 * k + 1)) (lbz (xs (6 * k + 2))) = some (r, c2) := by rw [ec]; exact e1
  rw [← ec] at hLW2
  refine lv_aload_n cx.1 cx.2.1 dL_law_481 rfl (lv_at hl 3 rfl) ?_
  refine lw_sc cx hw hX hbl hbA hl (i0 := 4) (i4 := 0) rfl rfl hk hL (j := 1) (by decide) (by decide) dL_law_482 dL_law_483 dL_law_485 dL_law_486 dL_law_487 ?_
  refine lw_sc cx hw hX hbl hbA hl (i0 := 4) (i4 := 0) rfl rfl hk hL (j := 2) (by decide) (by decide) dL_law_488 dL_law_489 dL_law_491 dL_law_492 dL_law_493 ?_
  refine lw_bool (tz := 501) (tj := 502) cx dL_law_494 (by decide) dL_law_497 dL_law_498 (by decide) dL_law_501 rfl ?_
  refine hp_callFj (g1 := cd_pic cA ad ca c1) (As := [.int (xs (6 * k + 1)), .int (lbz (xs (6 * k + 2)))]) (rest := []) cx hw hJ.2.1 (kc_X11_has l D cA E _ ad ca hJ.1 oq sgq sgv hG n c1 (xs (6 * k + 1)) (lbz (xs (6 * k + 2))) (r, c2) e1) (cwV 2 cx.2.2.2.2.2.1 gl_76 rfl rfl rfl (by decide +kernel) ⟨Nat.le_of_ble_eq_true rfl, Nat.le_of_ble_eq_true rfl⟩) (hJ.2.1 _ _ (cd_atO hJ.1 (by decide) (by decide))) rfl rfl hl.1 rfl (Nat.le_of_ble_eq_true rfl) dL_law_502 ⟨by show cells + 0 ≤ 600128; omega, by show slots + 0 ≤ 7301097; omega⟩ (fun r1 u2 g3 H locs hp4 ha5 hb6 hc7 hw => ?_)
  obtain ⟨er1, ca2, hj2, eu⟩ := hp4
  subst eu
  have hJ1 : lw_J cA ad am o ca2 c2 m1 f g3 := hJ.cls hj2 ha5 hb6 hc7
  refine lv_aload_n cx.1 cx.2.1 dL_law_505 rfl (lv_at hl 2 rfl) ?_
  refine lw_sc cx hw hX hbl hbA hl (i0 := 4) (i4 := 0) rfl rfl hk hL (j := 1) (by decide) (by decide) dL_law_506 dL_law_507 dL_law_509 dL_law_510 dL_law_511 ?_
  refine lw_sc cx hw hX hbl hbA hl (i0 := 4) (i4 := 0) rfl rfl hk hL (j := 2) (by decide) (by decide) dL_law_512 dL_law_513 dL_law_515 dL_law_516 dL_law_517 ?_
  refine lw_bool (tz := 525) (tj := 526) cx dL_law_518 (by decide) dL_law_521 dL_law_522 (by decide) dL_law_525 rfl ?_
  refine hp_callFj (g1 := md_pic cA am m1) (As := [.int (xs (6 * k + 1)), .int (lbz (xs (6 * k + 2)))]) (rest := [.int r1]) cx hw hJ1.2.2.1 (km_X12_has l D cA E _ am hjm hM n m1 (xs (6 * k + 1)) (lbz (xs (6 * k + 2))) (r, m2) e2) (cwV 2 cx.2.2.2.2.2.1 gl_80 rfl rfl rfl (by decide +kernel) ⟨Nat.le_of_ble_eq_true rfl, Nat.le_of_ble_eq_true rfl⟩) (hJ1.2.2.1 _ _ md_at0) rfl rfl hl.1 rfl (Nat.le_of_ble_eq_true rfl) dL_law_526 ⟨by show cells + 0 + 0 ≤ 600128; omega, by show slots + 0 + 0 ≤ 7301097; omega⟩ (fun r8 u9 g10 H locs hp11 ha12 hb13 hc14 hw => ?_)
  obtain ⟨er2, eu⟩ := hp11
  subst eu
  have hJ2 : lw_J cA ad am o ca2 c2 m2 f g10 := hJ1.mdl ha12 hb13
  refine lv_icmp_eq (tgt := 803) cx.1 cx.2.1 dL_law_529 (by decide) (fun _ => ?_) (fun ck => absurd (er1.trans er2.symm) ck)
  exact K _ _ _ _ _ _ bb hw ⟨ca2, c2, m2, f, hLW2, hJ2⟩ (lv_sub hl [0, 1, 2, 3, 4] rfl) (by show cells + 0 + 0 + bb.1 ≤ 600128; omega) (by show slots + 0 + 0 + bb.2 ≤ 7301097; omega)
set_option maxHeartbeats 4000000 in
set_option maxRecDepth 100000 in
theorem lc_11 {p : Program} {l : Launch} {e : Env} {s : State} {m : MethodId} {below : List Frame} {meth : Method} {c : Code} {b L k n : Nat} {xs : Nat → Int32} (C0 : lw_At p s m meth c b L xs) (hL : L ≤ 384) (hk : 6 * k + 5 < L) {D : va_G} {cA : Nat → ClassId} {E : hp_N} {oq sgq sgv : Nat} (hG : cd_E E oq sgq sgv) (hM : md_E E) (hX1 : cd_X l E) (hX2 : cd_Y l E) (hnc : ∀ A U H, E A U H → va_Nc "java/lang/IllegalArgumentException" "java/lang/IllegalStateException" U) {ad : Nat → Nat → Nat} {am : Nat → Nat} {o : Nat} {C : Nat × Nat} (hjm : md_inj am) (hC : LC C) (hn : 60000000 ≤ n) (cx : hp_C p c cL_law meth ret 7 s m #[Value.ref b] ⟨RL, meth.name, ""⟩ lw_tbl) {g : hp_M} {H : Heap} {locs : List Loc} {ls : Array Slot} {cells slots : Nat} {bb : cd_B} (hw : hp_w D vwCl (hp_Tl cA) E (fun q => s.heap.size ≤ q) s H locs g) (hI : lw_I n cA ad am o C k g bb) (hl : lv_has ls 7 [(4, .int (nI (6 * k))), (3, .ref o), (2, .ref (am 137)), (1, .ref (ad 11 0)), (0, .ref b)]) (hcc : cells + bb.1 ≤ 600128) (hss : slots + bb.2 ≤ 7301097) (K : lw_K p l e s m below meth c b D cA E ad am o C n k) : W p l e room_1 s m #[Value.ref b] below meth c H locs cells slots (lw_Z below #[Value.ref b] s) (F0 m 534 ls []) := by
  obtain ⟨hx, hb, hr, hml, hown, hts, hX, hbl, hlocks, hgv⟩ := id C0
  have hbA : ¬ (fun q : Nat => s.heap.size ≤ q) b := Nat.not_le.mpr hbl
  obtain ⟨ca, c1, m1, f, hLW, hJ⟩ := hI
  have hk64 : k < 64 := by omega
  obtain ⟨r, c2, m2, e1, e2, hLW2⟩ := law_may (by omega) hLW (xs (6 * k + 1))
  refine lv_aload_n cx.1 cx.2.1 dL_law_534 rfl (lv_at hl 3 rfl) ?_
  refine lw_sc cx hw hX hbl hbA hl (i0 := 4) (i4 := 0) rfl rfl hk hL (j := 1) (by decide) (by decide) dL_law_535 dL_law_536 dL_law_538 dL_law_539 dL_law_540 ?_
  refine hp_callFj (g1 := cd_pic cA ad ca c1) (As := [.int (xs (6 * k + 1))]) (rest := []) cx hw hJ.2.1 (kc_X11_may l D cA E _ ad ca hJ.1 oq sgq sgv hG n c1 (xs (6 * k + 1)) (r, c2) e1) (cwV 1 cx.2.2.2.2.2.1 gl_81 rfl rfl rfl (by decide +kernel) ⟨Nat.le_of_ble_eq_true rfl, Nat.le_of_ble_eq_true rfl⟩) (hJ.2.1 _ _ (cd_atO hJ.1 (by decide) (by decide))) rfl rfl hl.1 rfl (Nat.le_of_ble_eq_true rfl) dL_law_541 ⟨by show cells + 0 ≤ 600128; omega, by show slots + 0 ≤ 7301097; omega⟩ (fun r1 u2 g3 H locs hp4 ha5 hb6 hc7 hw => ?_)
  obtain ⟨er1, ca2, hj2, eu⟩ := hp4
  subst eu
  have hJ1 : lw_J cA ad am o ca2 c2 m1 f g3 := hJ.cls hj2 ha5 hb6 hc7
  refine lv_aload_n cx.1 cx.2.1 dL_law_544 rfl (lv_at hl 2 rfl) ?_
  refine lw_sc cx hw hX hbl hbA hl (i0 := 4) (i4 := 0) rfl rfl hk hL (j := 1) (by decide) (by decide) dL_law_545 dL_law_546 dL_law_548 dL_law_549 dL_law_550 ?_
  refine hp_callFj (g1 := md_pic cA am m1) (As := [.int (xs (6 * k + 1))]) (rest := [.int r1]) cx hw hJ1.2.2.1 (km_X12_may l D cA E _ am hjm hM n m1 (xs (6 * k + 1)) (r, m2) e2) (cwV 1 cx.2.2.2.2.2.1 gl_84 rfl rfl rfl (by decide +kernel) ⟨Nat.le_of_ble_eq_true rfl, Nat.le_of_ble_eq_true rfl⟩) (hJ1.2.2.1 _ _ md_at0) rfl rfl hl.1 rfl (Nat.le_of_ble_eq_true rfl) dL_law_551 ⟨by show cells + 0 + 0 ≤ 600128; omega, by show slots + 0 + 0 ≤ 7301097; omega⟩ (fun r8 u9 g10 H locs hp11 ha12 hb13 hc14 hw => ?_)
  obtain ⟨er2, eu⟩ := hp11
  subst eu
  have hJ2 : lw_J cA ad am o ca2 c2 m2 f g10 := hJ1.mdl ha12 hb13
  refine lv_icmp_eq (tgt := 803) cx.1 cx.2.1 dL_law_554 (by decide) (fun _ => ?_) (fun ck => absurd (er1.trans er2.symm) ck)
  exact K _ _ _ _ _ _ bb hw ⟨ca2, c2, m2, f, hLW2, hJ2⟩ (lv_sub hl [0, 1, 2, 3, 4] rfl) (by show cells + 0 + 0 + bb.1 ≤ 600128; omega) (by show slots + 0 + 0 + bb.2 ≤ 7301097; omega)
