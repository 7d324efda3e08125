set_option maxHeartbeats 4000000 in
set_option maxRecDepth 100000 in
theorem lc_12 {p : Program} {l : Launch} {e : Env} {s : State} {m : MethodId} {below : List Frame} {meth : Method} {c : Code} {b L k n : Nat} {xs : Nat → Int32} (C0 : lw_At p s m meth c b L xs) (hL : L ≤ 384) (hk : 6 * k + 5 < L) {D : va_G} {cA : Nat → ClassId} {E : hp_N} {oq sgq sgv : Nat} (hG : cd_E E oq sgq sgv) (hM : md_E E) (hX1 : cd_X l E) (hX2 : cd_Y l E) (hnc : ∀ A U H, E A U H → va_Nc "java/lang/IllegalArgumentException" "java/lang/IllegalStateException" U) {ad : Nat → Nat → Nat} {am : Nat → Nat} {o : Nat} {C : Nat × Nat} (hjm : md_inj am) (hC : LC C) (hn : 60000000 ≤ n) (cx : hp_C p c cL_law meth ret 7 s m #[Value.ref b] ⟨RL, meth.name, ""⟩ lw_tbl) {g : hp_M} {H : Heap} {locs : List Loc} {ls : Array Slot} {cells slots : Nat} {bb : cd_B} (hw : hp_w D vwCl (hp_Tl cA) E (fun q => s.heap.size ≤ q) s H locs g) (hI : lw_I n cA ad am o C k g bb) (hl : lv_has ls 7 [(4, .int (nI (6 * k))), (3, .ref o), (2, .ref (am 137)), (1, .ref (ad 11 0)), (0, .ref b)]) (hcc : cells + bb.1 ≤ 600128) (hss : slots + bb.2 ≤ 7301097) (K : lw_K p l e s m below meth c b D cA E ad am o C n k) : W p l e room_1 s m #[Value.ref b] below meth c H locs cells slots (lw_Z below #[Value.ref b] s) (F0 m 559 ls []) := by
  obtain ⟨hx, hb, hr, hml, hown, hts, hX, hbl, hlocks, hgv⟩ := id C0
  have hbA : ¬ (fun q : Nat => s.heap.size ≤ q) b := Nat.not_le.mpr hbl
  obtain ⟨ca, c1, m1, f, hLW, hJ⟩ := hI
  have hk64 : k < 64 := by omega
  have hlb := lbz_rI (xs (6 * k + 4))
  rcases law_run (a1 := (xs (6 * k + 1))) (a2 := (xs (6 * k + 2))) (a3 := (xs (6 * k + 3))) (rw := !decide ((xs (6 * k + 4)) = 0)) hC (by omega) hk64 hLW with ⟨ee, b2, he, e1, e2, hLW2, hb1, hb2⟩ | ⟨r, c2, b2, m2, e1, e2, e3, hLW2, hb1, hb2⟩
  · rw [← hlb] at e1 e2
    have hq1 : cells + (bb.1 - b2.1) ≤ 600128 := by omega
    have hq2 : slots + (bb.2 - b2.2) ≤ 7301097 := by omega
    rcases he with rfl | rfl
    · obtain ⟨m2, em⟩ : ∃ m2, m2 = mSI m1 0 (nI 1) := ⟨_, rfl⟩
      rw [← em] at e2 hLW2
      have e3 : mI m2 0 = 1 := by rw [em]; rfl
      refine lv_aload_n cx.1 cx.2.1 dL_law_559 rfl (lv_at hl 3 rfl) ?_
      refine lw_sc cx hw hX hbl hbA hl (i0 := 4) (i4 := 0) rfl rfl hk hL (j := 1) (by decide) (by decide) dL_law_560 dL_law_561 dL_law_563 dL_law_564 dL_law_565 ?_
      refine lw_sc cx hw hX hbl hbA hl (i0 := 4) (i4 := 0) rfl rfl hk hL (j := 2) (by decide) (by decide) dL_law_566 dL_law_567 dL_law_569 dL_law_570 dL_law_571 ?_
      refine lw_sc cx hw hX hbl hbA hl (i0 := 4) (i4 := 0) rfl rfl hk hL (j := 3) (by decide) (by decide) dL_law_572 dL_law_573 dL_law_575 dL_law_576 dL_law_577 ?_
      refine lw_sc cx hw hX hbl hbA hl (i0 := 4) (i4 := 0) rfl rfl hk hL (j := 4) (by decide) (by decide) dL_law_578 dL_law_579 dL_law_581 dL_law_582 dL_law_583 ?_
      refine lw_bool (tz := 591) (tj := 592) cx dL_law_584 (by decide) dL_law_587 dL_law_588 (by decide) dL_law_591 rfl ?_
      refine lv_aload_n cx.1 cx.2.1 dL_law_592 rfl (lv_at hl 1 rfl) ?_
      refine hp_callFWj (g1 := lw_H cA ad o ca c1 f) (As := [.ref (ad 11 0), .int (xs (6 * k + 1)), .int (xs (6 * k + 2)), .int (xs (6 * k + 3)), .int (lbz (xs (6 * k + 4))), .ref o]) (rest := []) cx hw hJ.sub (k2_Lr_1 l D cA E _ _ ad ca hJ.1 oq sgq sgv hG hX2 n c1 bb (xs (6 * k + 1)) (xs (6 * k + 2)) (xs (6 * k + 3)) (lbz (xs (6 * k + 4))) (c1, b2) e1 o f (lw_H.cls hJ.2.2.2.2.2.1) hJ.2.2.2.2.2.1 (hp_up_self _ _ _)) (vx_cwSW 6 cx.2.2.2.2.2.1 gl_85 rfl rfl rfl (by decide +kernel) ⟨Nat.le_of_ble_eq_true rfl, Nat.le_of_ble_eq_true rfl⟩) rfl hl.1 rfl (Nat.le_of_ble_eq_true rfl) dL_law_593 ⟨hq1, hq2⟩ (fun r1 u2 g3 H locs hp4 ha5 hb6 hc7 hw => ?_)
      obtain ⟨er1, ca2, f2, hj2, hs2, ho2, hu2⟩ := hp4
      have hJ1 : lw_J cA ad am o ca2 c1 m1 f2 g3 := hJ.hlp hj2 hs2 ho2 hu2 ha5 hb6 hc7
      subst er1
      refine lv_istore (lv' := [(5, .int 1), (4, .int (nI (6 * k))), (3, .ref o), (2, .ref (am 137)), (1, .ref (ad 11 0)), (0, .ref b)]) cx.1 cx.2.1 dL_law_596 hl (by decide) rfl (fun ls hl => ?_)
      refine lv_aload_n cx.1 cx.2.1 dL_law_598 rfl (lv_at hl 3 rfl) ?_
      refine lw_sc cx hw hX hbl hbA hl (i0 := 5) (i4 := 1) rfl rfl hk hL (j := 1) (by decide) (by decide) dL_law_599 dL_law_600 dL_law_602 dL_law_603 dL_law_604 ?_
      refine lw_sc cx hw hX hbl hbA hl (i0 := 5) (i4 := 1) rfl rfl hk hL (j := 2) (by decide) (by decide) dL_law_605 dL_law_606 dL_law_608 dL_law_609 dL_law_610 ?_
      refine lw_sc cx hw hX hbl hbA hl (i0 := 5) (i4 := 1) rfl rfl hk hL (j := 3) (by decide) (by decide) dL_law_611 dL_law_612 dL_law_614 dL_law_615 dL_law_616 ?_
      refine lw_sc cx hw hX hbl hbA hl (i0 := 5) (i4 := 1) rfl rfl hk hL (j := 4) (by decide) (by decide) dL_law_617 dL_law_618 dL_law_620 dL_law_621 dL_law_622 ?_
      refine lw_bool (tz := 630) (tj := 631) cx dL_law_623 (by decide) dL_law_626 dL_law_627 (by decide) dL_law_630 rfl ?_
      refine hp_callFj (g1 := md_pic cA am m1) (As := [.int (xs (6 * k + 1)), .int (xs (6 * k + 2)), .int (xs (6 * k + 3)), .int (lbz (xs (6 * k + 4)))]) (rest := []) cx hw hJ1.2.2.1 (km_X12_run l D cA E _ am hjm hM n m1 (xs (6 * k + 1)) (xs (6 * k + 2)) (xs (6 * k + 3)) (lbz (xs (6 * k + 4))) (0, m2) e2) (cwV 4 cx.2.2.2.2.2.1 gl_88 rfl rfl rfl (by decide +kernel) ⟨Nat.le_of_ble_eq_true rfl, Nat.le_of_ble_eq_true rfl⟩) (hJ1.2.2.1 _ _ md_at0) rfl rfl hl.1 rfl (Nat.le_of_ble_eq_true rfl) dL_law_631 ⟨by show cells + (bb.1 - b2.1) + 0 ≤ 600128; omega, by show slots + (bb.2 - b2.2) + 0 ≤ 7301097; omega⟩ (fun r8 u9 g10 H locs hp11 ha12 hb13 hc14 hw => ?_)
      obtain ⟨er2, eu⟩ := hp11
      subst eu
      have hJ2 : lw_J cA ad am o ca2 c1 m2 f2 g10 := hJ1.mdl ha12 hb13
      refine lv_istore (lv' := [(6, .int r8), (5, .int 1), (4, .int (nI (6 * k))), (3, .ref o), (2, .ref (am 137)), (1, .ref (ad 11 0)), (0, .ref b)]) cx.1 cx.2.1 dL_law_634 hl (by decide) rfl (fun ls hl => ?_)
      refine lv_aload_n cx.1 cx.2.1 dL_law_636 rfl (lv_at hl 4 rfl) ?_
      refine hp_callFj (g1 := md_pic cA am m2) (As := []) (rest := []) cx hw hJ2.2.2.1 (km_X12_thrown l D cA E _ am hjm hM n m2  (mI m2 0, m2) m_thrown) (cwV 0 cx.2.2.2.2.2.1 gl_41 rfl rfl rfl (by decide +kernel) ⟨Nat.le_of_ble_eq_true rfl, Nat.le_of_ble_eq_true rfl⟩) (hJ2.2.2.1 _ _ md_at0) rfl rfl hl.1 rfl (Nat.le_of_ble_eq_true rfl) dL_law_637 ⟨by show cells + (bb.1 - b2.1) + 0 + 0 ≤ 600128; omega, by show slots + (bb.2 - b2.2) + 0 + 0 ≤ 7301097; omega⟩ (fun r15 u16 g17 H locs hp18 ha19 hb20 hc21 hw => ?_)
      obtain ⟨er3, eu⟩ := hp18
      subst eu
      have hJ3 : lw_J cA ad am o ca2 c1 m2 f2 g17 := hJ2.mdl ha19 hb20
      have er3 : r15 = 1 := er3.trans e3
      subst er3
      refine lv_iload cx.1 cx.2.1 dL_law_640 (lv_at hl 1 rfl) ?_
      refine lv_icmp_eq (tgt := 647) cx.1 cx.2.1 dL_law_642 (by decide) (fun _ => ?_) (fun ck => absurd rfl ck)
      refine lv_iload cx.1 cx.2.1 dL_law_647 (lv_at hl 1 rfl) ?_
      refine lv_if_ne (tgt := 664) cx.1 cx.2.1 dL_law_649 (by decide) (fun _ => ?_) (fun ck => absurd ck (by decide))
      refine lv_goto (tgt := 803) cx.1 cx.2.1 dL_law_664 (by decide) ?_
      exact K _ _ _ _ _ _ b2 hw ⟨ca2, c1, m2, f2, hLW2, hJ3⟩ (lv_sub hl [2, 3, 4, 5, 6] rfl) (by show cells + (bb.1 - b2.1) + 0 + 0 + b2.1 ≤ 600128; omega) (by show slots + (bb.2 - b2.2) + 0 + 0 + b2.2 ≤ 7301097; omega)
    · obtain ⟨m2, em⟩ : ∃ m2, m2 = mSI m1 0 (nI 2) := ⟨_, rfl⟩
      rw [← em] at e2 hLW2
      have e3 : mI m2 0 = 2 := by rw [em]; rfl
      refine lv_aload_n cx.1 cx.2.1 dL_law_559 rfl (lv_at hl 3 rfl) ?_
      refine lw_sc cx hw hX hbl hbA hl (i0 := 4) (i4 := 0) rfl rfl hk hL (j := 1) (by decide) (by decide) dL_law_560 dL_law_561 dL_law_563 dL_law_564 dL_law_565 ?_
      refine lw_sc cx hw hX hbl hbA hl (i0 := 4) (i4 := 0) rfl rfl hk hL (j := 2) (by decide) (by decide) dL_law_566 dL_law_567 dL_law_569 dL_law_570 dL_law_571 ?_
      refine lw_sc cx hw hX hbl hbA hl (i0 := 4) (i4 := 0) rfl rfl hk hL (j := 3) (by decide) (by decide) dL_law_572 dL_law_573 dL_law_575 dL_law_576 dL_law_577 ?_
      refine lw_sc cx hw hX hbl hbA hl (i0 := 4) (i4 := 0) rfl rfl hk hL (j := 4) (by decide) (by decide) dL_law_578 dL_law_579 dL_law_581 dL_law_582 dL_law_583 ?_
      refine lw_bool (tz := 591) (tj := 592) cx dL_law_584 (by decide) dL_law_587 dL_law_588 (by decide) dL_law_591 rfl ?_
      refine lv_aload_n cx.1 cx.2.1 dL_law_592 rfl (lv_at hl 1 rfl) ?_
      refine hp_callFWj (g1 := lw_H cA ad o ca c1 f) (As := [.ref (ad 11 0), .int (xs (6 * k + 1)), .int (xs (6 * k + 2)), .int (xs (6 * k + 3)), .int (lbz (xs (6 * k + 4))), .ref o]) (rest := []) cx hw hJ.sub (k2_Lr_2 l D cA E _ _ ad ca hJ.1 oq sgq sgv hG hX2 hnc n c1 bb (xs (6 * k + 1)) (xs (6 * k + 2)) (xs (6 * k + 3)) (lbz (xs (6 * k + 4))) (c1, b2) e1 o f (lw_H.cls hJ.2.2.2.2.2.1) hJ.2.2.2.2.2.1 (hp_up_self _ _ _)) (vx_cwSW 6 cx.2.2.2.2.2.1 gl_85 rfl rfl rfl (by decide +kernel) ⟨Nat.le_of_ble_eq_true rfl, Nat.le_of_ble_eq_true rfl⟩) rfl hl.1 rfl (Nat.le_of_ble_eq_true rfl) dL_law_593 ⟨hq1, hq2⟩ (fun r1 u2 g3 H locs hp4 ha5 hb6 hc7 hw => ?_)
      obtain ⟨er1, ca2, f2, hj2, hs2, ho2, hu2⟩ := hp4
      have hJ1 : lw_J cA ad am o ca2 c1 m1 f2 g3 := hJ.hlp hj2 hs2 ho2 hu2 ha5 hb6 hc7
      subst er1
      refine lv_istore (lv' := [(5, .int 2), (4, .int (nI (6 * k))), (3, .ref o), (2, .ref (am 137)), (1, .ref (ad 11 0)), (0, .ref b)]) cx.1 cx.2.1 dL_law_596 hl (by decide) rfl (fun ls hl => ?_)
      refine lv_aload_n cx.1 cx.2.1 dL_law_598 rfl (lv_at hl 3 rfl) ?_
      refine lw_sc cx hw hX hbl hbA hl (i0 := 5) (i4 := 1) rfl rfl hk hL (j := 1) (by decide) (by decide) dL_law_599 dL_law_600 dL_law_602 dL_law_603 dL_law_604 ?_
      refine lw_sc cx hw hX hbl hbA hl (i0 := 5) (i4 := 1) rfl rfl hk hL (j := 2) (by decide) (by decide) dL_law_605 dL_law_606 dL_law_608 dL_law_609 dL_law_610 ?_
      refine lw_sc cx hw hX hbl hbA hl (i0 := 5) (i4 := 1) rfl rfl hk hL (j := 3) (by decide) (by decide) dL_law_611 dL_law_612 dL_law_614 dL_law_615 dL_law_616 ?_
      refine lw_sc cx hw hX hbl hbA hl (i0 := 5) (i4 := 1) rfl rfl hk hL (j := 4) (by decide) (by decide) dL_law_617 dL_law_618 dL_law_620 dL_law_621 dL_law_622 ?_
      refine lw_bool (tz := 630) (tj := 631) cx dL_law_623 (by decide) dL_law_626 dL_law_627 (by decide) dL_law_630 rfl ?_
      refine hp_callFj (g1 := md_pic cA am m1) (As := [.int (xs (6 * k + 1)), .int (xs (6 * k + 2)), .int (xs (6 * k + 3)), .int (lbz (xs (6 * k + 4)))]) (rest := []) cx hw hJ1.2.2.1 (km_X12_run l D cA E _ am hjm hM n m1 (xs (6 * k + 1)) (xs (6 * k + 2)) (xs (6 * k + 3)) (lbz (xs (6 * k + 4))) (0, m2) e2) (cwV 4 cx.2.2.2.2.2.1 gl_88 rfl rfl rfl (by decide +kernel) ⟨Nat.le_of_ble_eq_true rfl, Nat.le_of_ble_eq_true rfl⟩) (hJ1.2.2.1 _ _ md_at0) rfl rfl hl.1 rfl (Nat.le_of_ble_eq_true rfl) dL_law_631 ⟨by show cells + (bb.1 - b2.1) + 0 ≤ 600128; omega, by show slots + (bb.2 - b2.2) + 0 ≤ 7301097; omega⟩ (fun r8 u9 g10 H locs hp11 ha12 hb13 hc14 hw => ?_)
      obtain ⟨er2, eu⟩ := hp11
      subst eu
      have hJ2 : lw_J cA ad am o ca2 c1 m2 f2 g10 := hJ1.mdl ha12 hb13
      refine lv_istore (lv' := [(6, .int r8), (5, .int 2), (4, .int (nI (6 * k))), (3, .ref o), (2, .ref (am 137)), (1, .ref (ad 11 0)), (0, .ref b)]) cx.1 cx.2.1 dL_law_634 hl (by decide) rfl (fun ls hl => ?_)
      refine lv_aload_n cx.1 cx.2.1 dL_law_636 rfl (lv_at hl 4 rfl) ?_
      refine hp_callFj (g1 := md_pic cA am m2) (As := []) (rest := []) cx hw hJ2.2.2.1 (km_X12_thrown l D cA E _ am hjm hM n m2  (mI m2 0, m2) m_thrown) (cwV 0 cx.2.2.2.2.2.1 gl_41 rfl rfl rfl (by decide +kernel) ⟨Nat.le_of_ble_eq_true rfl, Nat.le_of_ble_eq_true rfl⟩) (hJ2.2.2.1 _ _ md_at0) rfl rfl hl.1 rfl (Nat.le_of_ble_eq_true rfl) dL_law_637 ⟨by show cells + (bb.1 - b2.1) + 0 + 0 ≤ 600128; omega, by show slots + (bb.2 - b2.2) + 0 + 0 ≤ 7301097; omega⟩ (fun r15 u16 g17 H locs hp18 ha19 hb20 hc21 hw => ?_)
      obtain ⟨er3, eu⟩ := hp18
      subst eu
      have hJ3 : lw_J cA ad am o ca2 c1 m2 f2 g17 := hJ2.mdl ha19 hb20
      have er3 : r15 = 2 := er3.trans e3
      subst er3
      refine lv_iload cx.1 cx.2.1 dL_law_640 (lv_at hl 1 rfl) ?_
      refine lv_icmp_eq (tgt := 647) cx.1 cx.2.1 dL_law_642 (by decide) (fun _ => ?_) (fun ck => absurd rfl ck)
      refine lv_iload cx.1 cx.2.1 dL_law_647 (lv_at hl 1 rfl) ?_
      refine lv_if_ne (tgt := 664) cx.1 cx.2.1 dL_law_649 (by decide) (fun _ => ?_) (fun ck => absurd ck (by decide))
      refine lv_goto (tgt := 803) cx.1 cx.2.1 dL_law_664 (by decide) ?_
      exact K _ _ _ _ _ _ b2 hw ⟨ca2, c1, m2, f2, hLW2, hJ3⟩ (lv_sub hl [2, 3, 4, 5, 6] rfl) (by show cells + (bb.1 - b2.1) + 0 + 0 + b2.1 ≤ 600128; omega) (by show slots + (bb.2 - b2.2) + 0 + 0 + b2.2 ≤ 7301097; omega)
  · rw [← hlb] at e1 e2
    have hq1 : cells + (bb.1 - b2.1) ≤ 600128 := by omega
    have hq2 : slots + (bb.2 - b2.2) ≤ 7301097 := by omega
    refine lv_aload_n cx.1 cx.2.1 dL_law_559 rfl (lv_at hl 3 rfl) ?_
    refine lw_sc cx hw hX hbl hbA hl (i0 := 4) (i4 := 0) rfl rfl hk hL (j := 1) (by decide) (by decide) dL_law_560 dL_law_561 dL_law_563 dL_law_564 dL_law_565 ?_
    refine lw_sc cx hw hX hbl hbA hl (i0 := 4) (i4 := 0) rfl rfl hk hL (j := 2) (by decide) (by decide) dL_law_566 dL_law_567 dL_law_569 dL_law_570 dL_law_571 ?_
    refine lw_sc cx hw hX hbl hbA hl (i0 := 4) (i4 := 0) rfl rfl hk hL (j := 3) (by decide) (by decide) dL_law_572 dL_law_573 dL_law_575 dL_law_576 dL_law_577 ?_
    refine lw_sc cx hw hX hbl hbA hl (i0 := 4) (i4 := 0) rfl rfl hk hL (j := 4) (by decide) (by decide) dL_law_578 dL_law_579 dL_law_581 dL_law_582 dL_law_583 ?_
    refine lw_bool (tz := 591) (tj := 592) cx dL_law_584 (by decide) dL_law_587 dL_law_588 (by decide) dL_law_591 rfl ?_
    refine lv_aload_n cx.1 cx.2.1 dL_law_592 rfl (lv_at hl 1 rfl) ?_
    refine hp_callFWj (g1 := lw_H cA ad o ca c1 f) (As := [.ref (ad 11 0), .int (xs (6 * k + 1)), .int (xs (6 * k + 2)), .int (xs (6 * k + 3)), .int (lbz (xs (6 * k + 4))), .ref o]) (rest := []) cx hw hJ.sub (k2_Lr_r l D cA E _ _ ad ca hJ.1 oq sgq sgv hG n c1 bb (xs (6 * k + 1)) (xs (6 * k + 2)) (xs (6 * k + 3)) (lbz (xs (6 * k + 4))) (r, c2, b2) e1 o f (lw_H.cls hJ.2.2.2.2.2.1) hJ.2.2.2.2.2.1 (hp_up_self _ _ _)) (vx_cwSW 6 cx.2.2.2.2.2.1 gl_85 rfl rfl rfl (by decide +kernel) ⟨Nat.le_of_ble_eq_true rfl, Nat.le_of_ble_eq_true rfl⟩) rfl hl.1 rfl (Nat.le_of_ble_eq_true rfl) dL_law_593 ⟨hq1, hq2⟩ (fun r1 u2 g3 H locs hp4 ha5 hb6 hc7 hw => ?_)
    obtain ⟨er1, ca2, f2, hj2, hs2, ho2, hu2, hf2⟩ := hp4
    have hJ1 : lw_J cA ad am o ca2 c2 m1 f2 g3 := hJ.hlp hj2 hs2 ho2 hu2 ha5 hb6 hc7
    subst er1
    refine lv_istore (lv' := [(5, .int 0), (4, .int (nI (6 * k))), (3, .ref o), (2, .ref (am 137)), (1, .ref (ad 11 0)), (0, .ref b)]) cx.1 cx.2.1 dL_law_596 hl (by decide) rfl (fun ls hl => ?_)
    refine lv_aload_n cx.1 cx.2.1 dL_law_598 rfl (lv_at hl 3 rfl) ?_
    refine lw_sc cx hw hX hbl hbA hl (i0 := 5) (i4 := 1) rfl rfl hk hL (j := 1) (by decide) (by decide) dL_law_599 dL_law_600 dL_law_602 dL_law_603 dL_law_604 ?_
    refine lw_sc cx hw hX hbl hbA hl (i0 := 5) (i4 := 1) rfl rfl hk hL (j := 2) (by decide) (by decide) dL_law_605 dL_law_606 dL_law_608 dL_law_609 dL_law_610 ?_
    refine lw_sc cx hw hX hbl hbA hl (i0 := 5) (i4 := 1) rfl rfl hk hL (j := 3) (by decide) (by decide) dL_law_611 dL_law_612 dL_law_614 dL_law_615 dL_law_616 ?_
    refine lw_sc cx hw hX hbl hbA hl (i0 := 5) (i4 := 1) rfl rfl hk hL (j := 4) (by decide) (by decide) dL_law_617 dL_law_618 dL_law_620 dL_law_621 dL_law_622 ?_
    refine lw_bool (tz := 630) (tj := 631) cx dL_law_623 (by decide) dL_law_626 dL_law_627 (by decide) dL_law_630 rfl ?_
    refine hp_callFj (g1 := md_pic cA am m1) (As := [.int (xs (6 * k + 1)), .int (xs (6 * k + 2)), .int (xs (6 * k + 3)), .int (lbz (xs (6 * k + 4)))]) (rest := []) cx hw hJ1.2.2.1 (km_X12_run l D cA E _ am hjm hM n m1 (xs (6 * k + 1)) (xs (6 * k + 2)) (xs (6 * k + 3)) (lbz (xs (6 * k + 4))) (r, m2) e2) (cwV 4 cx.2.2.2.2.2.1 gl_88 rfl rfl rfl (by decide +kernel) ⟨Nat.le_of_ble_eq_true rfl, Nat.le_of_ble_eq_true rfl⟩) (hJ1.2.2.1 _ _ md_at0) rfl rfl hl.1 rfl (Nat.le_of_ble_eq_true rfl) dL_law_631 ⟨by show cells + (bb.1 - b2.1) + 0 ≤ 600128; omega, by show slots + (bb.2 - b2.2) + 0 ≤ 7301097; omega⟩ (fun r8 u9 g10 H locs hp11 ha12 hb13 hc14 hw => ?_)
    obtain ⟨er2, eu⟩ := hp11
    subst eu
    have hJ2 : lw_J cA ad am o ca2 c2 m2 f2 g10 := hJ1.mdl ha12 hb13
    refine lv_istore (lv' := [(6, .int r8), (5, .int 0), (4, .int (nI (6 * k))), (3, .ref o), (2, .ref (am 137)), (1, .ref (ad 11 0)), (0, .ref b)]) cx.1 cx.2.1 dL_law_634 hl (by decide) rfl (fun ls hl => ?_)
    refine lv_aload_n cx.1 cx.2.1 dL_law_636 rfl (lv_at hl 4 rfl) ?_
    refine hp_callFj (g1 := md_pic cA am m2) (As := []) (rest := []) cx hw hJ2.2.2.1 (km_X12_thrown l D cA E _ am hjm hM n m2  (mI m2 0, m2) m_thrown) (cwV 0 cx.2.2.2.2.2.1 gl_41 rfl rfl rfl (by decide +kernel) ⟨Nat.le_of_ble_eq_true rfl, Nat.le_of_ble_eq_true rfl⟩) (hJ2.2.2.1 _ _ md_at0) rfl rfl hl.1 rfl (Nat.le_of_ble_eq_true rfl) dL_law_637 ⟨by show cells + (bb.1 - b2.1) + 0 + 0 ≤ 600128; omega, by show slots + (bb.2 - b2.2) + 0 + 0 ≤ 7301097; omega⟩ (fun r15 u16 g17 H locs hp18 ha19 hb20 hc21 hw => ?_)
    obtain ⟨er3, eu⟩ := hp18
    subst eu
    have hJ3 : lw_J cA ad am o ca2 c2 m2 f2 g17 := hJ2.mdl ha19 hb20
    have er3 : r15 = 0 := er3.trans e3
    subst er3
    refine lv_iload cx.1 cx.2.1 dL_law_640 (lv_at hl 1 rfl) ?_
    refine lv_icmp_eq (tgt := 647) cx.1 cx.2.1 dL_law_642 (by decide) (fun _ => ?_) (fun ck => absurd rfl ck)
    refine lv_iload cx.1 cx.2.1 dL_law_647 (lv_at hl 1 rfl) ?_
    refine lv_if_ne (tgt := 664) cx.1 cx.2.1 dL_law_649 (by decide) (fun ck => absurd rfl ck) (fun _ => ?_)
    refine lv_aload_n cx.1 cx.2.1 dL_law_652 rfl (lv_at hl 3 rfl) ?_
    refine lv_iconst (v := 0) cx.1 cx.2.1 dL_law_653 (by decide) ?_
    refine hp_lald cx hw 2 hJ3.2.2.2.2.1 rfl (by unfold vp_in; decide) dL_law_654 ?_
    refine lv_iload cx.1 cx.2.1 dL_law_655 (lv_at hl 0 rfl) ?_
    refine lv_i2l (v := r8.toInt64) cx.1 cx.2.1 dL_law_657 rfl ?_
    refine W.lcmp cx.1 cx.2.1 dL_law_658 ?_
    have hcmp : lg_cmp (f2 (0 : Int32).toNatClampNeg) r8.toInt64 = 0 := by
      rw [show f2 (0 : Int32).toNatClampNeg = r.toInt64 from hf2, show r8 = r from er2]
      exact cmp_same _
    refine lv_if_eq (tgt := 664) cx.1 cx.2.1 dL_law_659 (by decide) (fun _ => ?_) (fun ck => absurd hcmp ck)
    refine lv_goto (tgt := 803) cx.1 cx.2.1 dL_law_664 (by decide) ?_
    exact K _ _ _ _ _ _ b2 hw ⟨ca2, c2, m2, f2, hLW2, hJ3⟩ (lv_sub hl [2, 3, 4, 5, 6] rfl) (by show cells + (bb.1 - b2.1) + 0 + 0 + b2.1 ≤ 600128; omega) (by show slots + (bb.2 - b2.2) + 0 + 0 + b2.2 ≤ 7301097; omega)
set_option maxHeartbeats 4000000 in
set_option maxRecDepth 100000 in
theorem lc_13 {p : Program} {l : Launch} {e : Env} {s : State} {m : MethodId} {below : List Frame} {meth : Method} {c : Code} {b L k n : Nat} {xs : Nat → Int32} (C0 : lw_At p s m meth c b L xs) (hL : L ≤ 384) (hk : 6 * k + 5 < L) {D : va_G} {cA : Nat → ClassId} {E : hp_N} {oq sgq sgv : Nat} (hG : cd_E E oq sgq sgv) (hM : md_E E) (hX1 : cd_X l E) (hX2 : cd_Y l E) (hnc : ∀ A U H, E A U H → va_Nc "java/lang/IllegalArgumentException" "java/lang/IllegalStateException" U) {ad : Nat → Nat → Nat} {am : Nat → Nat} {o : Nat} {C : Nat × Nat} (hjm : md_inj am) (hC : LC C) (hn : 60000000 ≤ n) (cx : hp_C p c cL_law meth ret 7 s m #[Value.ref b] ⟨RL, meth.name, ""⟩ lw_tbl) {g : hp_M} {H : Heap} {locs : List Loc} {ls : Array Slot} {cells slots : Nat} {bb : cd_B} (hw : hp_w D vwCl (hp_Tl cA) E (fun q => s.heap.size ≤ q) s H locs g) (hI : lw_I n cA ad am o C k g bb) (hl : lv_has ls 7 [(4, .int (nI (6 * k))), (3, .ref o), (2, .ref (am 137)), (1, .ref (ad 11 0)), (0, .ref b)]) (hcc : cells + bb.1 ≤ 600128) (hss : slots + bb.2 ≤ 7301097) (K : lw_K p l e s m below meth c b D cA E ad am o C n k) : W p l e room_1 s m #[Value.ref b] below meth c H locs cells slots (lw_Z below #[Value.ref b] s) (F0 m 667 ls []) := by
  obtain ⟨hx, hb, hr, hml, hown, hts, hX, hbl, hlocks, hgv⟩ := id C0
  have hbA : ¬ (fun q : Nat => s.heap.size ≤ q) b := Nat.not_le.mpr hbl
  obtain ⟨ca, c1, m1, f, hLW, hJ⟩ := hI
  have hk64 : k < 64 := by omega
  obtain ⟨hLT, t_fault, t_number, t_domain, t_unit, t_code, t_has, t_result, t_event, t_context, t_thread, t_count⟩ := law_tell (by omega) hLW (xs (6 * k + 1)) (xs (6 * k + 2)) (xs (6 * k + 3))
  obtain ⟨r, e1, e2⟩ := t_result
  obtain ⟨m2, em⟩ : ∃ m2, m2 = mSI m1 0 0 := ⟨_, rfl⟩
  rw [← em] at e2 hLT
  have hLW2 := hLT
  obtain ⟨c2, ec⟩ : ∃ c2, c2 = c1 := ⟨c1, rfl⟩
  have e1 : f_X11_result n c1 (xs (6 * k + 1)) = some (r, c2) := by rw [ec]; exact e1
  rw [← ec] at hLW2
  refine lv_aload_n cx.1 cx.2.1 dL_law_667 rfl (lv_at hl 3 rfl) ?_
  refine lw_sc cx hw hX hbl hbA hl (i0 := 4) (i4 := 0) rfl rfl hk hL (j := 1) (by decide) (by decide) dL_law_668 dL_law_669 dL_law_671 dL_law_672 dL_law_673 ?_
  refine hp_callFj (g1 := cd_pic cA ad ca c1) (As := [.int (xs (6 * k + 1))]) (rest := []) cx hw hJ.2.1 (kc_X11_result l D cA E _ ad ca hJ.1 oq sgq sgv hG n c1 (xs (6 * k + 1)) (r, c2) e1) (cwV 1 cx.2.2.2.2.2.1 gl_89 rfl rfl rfl (by decide +kernel) ⟨Nat.le_of_ble_eq_true rfl, Nat.le_of_ble_eq_true rfl⟩) (hJ.2.1 _ _ (cd_atO hJ.1 (by decide) (by decide))) rfl rfl hl.1 rfl (Nat.le_of_ble_eq_true rfl) dL_law_674 ⟨by show cells + 0 ≤ 600128; omega, by show slots + 0 ≤ 7301097; omega⟩ (fun r1 u2 g3 H locs hp4 ha5 hb6 hc7 hw => ?_)
  obtain ⟨er1, ca2, hj2, eu⟩ := hp4
  subst eu
  have hJ1 : lw_J cA ad am o ca2 c2 m1 f g3 := hJ.cls hj2 ha5 hb6 hc7
  refine lv_aload_n cx.1 cx.2.1 dL_law_677 rfl (lv_at hl 2 rfl) ?_
  refine lw_sc cx hw hX hbl hbA hl (i0 := 4) (i4 := 0) rfl rfl hk hL (j := 1) (by decide) (by decide) dL_law_678 dL_law_679 dL_law_681 dL_law_682 dL_law_683 ?_
  refine hp_callFj (g1 := md_pic cA am m1) (As := [.int (xs (6 * k + 1))]) (rest := [.int r1]) cx hw hJ1.2.2.1 (km_X12_result l D cA E _ am hjm hM n m1 (xs (6 * k + 1)) (r, m2) e2) (cwV 1 cx.2.2.2.2.2.1 gl_92 rfl rfl rfl (by decide +kernel) ⟨Nat.le_of_ble_eq_true rfl, Nat.le_of_ble_eq_true rfl⟩) (hJ1.2.2.1 _ _ md_at0) rfl rfl hl.1 rfl (Nat.le_of_ble_eq_true rfl) dL_law_684 ⟨by show cells + 0 + 0 ≤ 600128; omega, by show slots + 0 + 0 ≤ 7301097; omega⟩ (fun r8 u9 g10 H locs hp11 ha12 hb13 hc14 hw => ?_)
  obtain ⟨er2, eu⟩ := hp11
  subst eu
  have hJ2 : lw_J cA ad am o ca2 c2 m2 f g10 := hJ1.mdl ha12 hb13
  refine lv_icmp_eq (tgt := 803) cx.1 cx.2.1 dL_law_687 (by decide) (fun _ => ?_) (fun ck => absurd (er1.trans er2.symm) ck)
  exact K _ _ _ _ _ _ bb hw ⟨ca2, c2, m2, f, hLW2, hJ2⟩ (lv_sub hl [0, 1, 2, 3, 4] rfl) (by show cells + 0 + 0 + bb.1 ≤ 600128; omega) (by show slots + 0 + 0 + bb.2 ≤ 7301097; omega)
set_option maxHeartbeats 4000000 in
set_option maxRecDepth 100000 in
theorem lc_14 {p : Program} {l : Launch} {e : Env} {s : State} {m : MethodId} {below : List Frame} {meth : Method} {c : Code} {b L k n : Nat} {xs : Nat → Int32} (C0 : lw_At p s m meth c b L xs) (hL : L ≤ 384) (hk : 6 * k + 5 < L) {D : va_G} {cA : Nat → ClassId} {E : hp_N} {oq sgq sgv : Nat} (hG : cd_E E oq sgq sgv) (hM : md_E E) (hX1 : cd_X l E) (hX2 : cd_Y l E) (hnc : ∀ A U H, E A U H → va_Nc "java/lang/IllegalArgumentException" "java/lang/IllegalStateException" U) {ad : Nat → Nat → Nat} {am : Nat → Nat} {o : Nat} {C : Nat × Nat} (hjm : md_inj am) (hC : LC C) (hn : 60000000 ≤ n) (cx : hp_C p c cL_law meth ret 7 s m #[Value.ref b] ⟨RL, meth.name, ""⟩ lw_tbl) {g : hp_M} {H : Heap} {locs : List Loc} {ls : Array Slot} {cells slots : Nat} {bb : cd_B} (hw : hp_w D vwCl (hp_Tl cA) E (fun q => s.heap.size ≤ q) s H locs g) (hI : lw_I n cA ad am o C k g bb) (hl : lv_has ls 7 [(4, .int (nI (6 * k))), (3, .ref o), (2, .ref (am 137)), (1, .ref (ad 11 0)), (0, .ref b)]) (hcc : cells + bb.1 ≤ 600128) (hss : slots + bb.2 ≤ 7301097) (K : lw_K p l e s m below meth c b D cA E ad am o C n k) : W p l e room_1 s m #[Value.ref b] below meth c H locs cells slots (lw_Z below #[Value.ref b] s) (F0 m 692 ls []) := by
  obtain ⟨hx, hb, hr, hml, hown, hts, hX, hbl, hlocks, hgv⟩ := id C0
  have hbA : ¬ (fun q : Nat => s.heap.size ≤ q) b := Nat.not_le.mpr hbl
  obtain ⟨ca, c1, m1, f, hLW, hJ⟩ := hI
  have hk64 : k < 64 := by omega
  obtain ⟨hLT, t_fault, t_number, t_domain, t_unit, t_code, t_has, t_result, t_event, t_context, t_thread, t_count⟩ := law_tell (by omega) hLW (xs (6 * k + 1)) (xs (6 * k + 2)) (xs (6 * k + 3))
  obtain ⟨r, e1, e2⟩ := t_event
  obtain ⟨m2, em⟩ : ∃ m2, m2 = mSI m1 0 0 := ⟨_, rfl⟩
  rw [← em] at e2 hLT
  have hLW2 := hLT
  obtain ⟨c2, ec⟩ : ∃ c2, c2 = c1 := ⟨c1, rfl⟩
  have e1 : f_X11_event n c1 (xs (6 * k + 1)) (xs (6 * k + 2)) = some (r, c2) := by rw [ec]; exact e1
  rw [← ec] at hLW2
  refine lv_aload_n cx.1 cx.2.1 dL_law_692 rfl (lv_at hl 3 rfl) ?_
  refine lw_sc cx hw hX hbl hbA hl (i0 := 4) (i4 := 0) rfl rfl hk hL (j := 1) (by decide) (by decide) dL_law_693 dL_law_694 dL_law_696 dL_law_697 dL_law_698 ?_
  refine lw_sc cx hw hX hbl hbA hl (i0 := 4) (i4 := 0) rfl rfl hk hL (j := 2) (by decide) (by decide) dL_law_699 dL_law_700 dL_law_702 dL_law_703 dL_law_704 ?_
  refine hp_callFj (g1 := cd_pic cA ad ca c1) (As := [.int (xs (6 * k + 1)), .int (xs (6 * k + 2))]) (rest := []) cx hw hJ.2.1 (kc_X11_event l D cA E _ ad ca hJ.1 oq sgq sgv hG n c1 (xs (6 * k + 1)) (xs (6 * k + 2)) (r, c2) e1) (cwV 2 cx.2.2.2.2.2.1 gl_93 rfl rfl rfl (by decide +kernel) ⟨Nat.le_of_ble_eq_true rfl, Nat.le_of_ble_eq_true rfl⟩) (hJ.2.1 _ _ (cd_atO hJ.1 (by decide) (by decide))) rfl rfl hl.1 rfl (Nat.le_of_ble_eq_true rfl) dL_law_705 ⟨by show cells + 0 ≤ 600128; omega, by show slots + 0 ≤ 7301097; omega⟩ (fun r1 u2 g3 H locs hp4 ha5 hb6 hc7 hw => ?_)
  obtain ⟨er1, ca2, hj2, eu⟩ := hp4
  subst eu
  have hJ1 : lw_J cA ad am o ca2 c2 m1 f g3 := hJ.cls hj2 ha5 hb6 hc7
  refine lv_aload_n cx.1 cx.2.1 dL_law_708 rfl (lv_at hl 2 rfl) ?_
  refine lw_sc cx hw hX hbl hbA hl (i0 := 4) (i4 := 0) rfl rfl hk hL (j := 1) (by decide) (by decide) dL_law_709 dL_law_710 dL_law_712 dL_law_713 dL_law_714 ?_
  refine lw_sc cx hw hX hbl hbA hl (i0 := 4) (i4 := 0) rfl rfl hk hL (j := 2) (by decide) (by decide) dL_law_715 dL_law_716 dL_law_718 dL_law_719 dL_law_720 ?_
  refine hp_callFj (g1 := md_pic cA am m1) (As := [.int (xs (6 * k + 1)), .int (xs (6 * k + 2))]) (rest := [.int r1]) cx hw hJ1.2.2.1 (km_X12_event l D cA E _ am hjm hM n m1 (xs (6 * k + 1)) (xs (6 * k + 2)) (r, m2) e2) (cwV 2 cx.2.2.2.2.2.1 gl_96 rfl rfl rfl (by decide +kernel) ⟨Nat.le_of_ble_eq_true rfl, Nat.le_of_ble_eq_true rfl⟩) (hJ1.2.2.1 _ _ md_at0) rfl rfl hl.1 rfl (Nat.le_of_ble_eq_true rfl) dL_law_721 ⟨by show cells + 0 + 0 ≤ 600128; omega, by show slots + 0 + 0 ≤ 7301097; omega⟩ (fun r8 u9 g10 H locs hp11 ha12 hb13 hc14 hw => ?_)
  obtain ⟨er2, eu⟩ := hp11
  subst eu
  have hJ2 : lw_J cA ad am o ca2 c2 m2 f g10 := hJ1.mdl ha12 hb13
  refine lv_icmp_eq (tgt := 803) cx.1 cx.2.1 dL_law_724 (by decide) (fun _ => ?_) (fun ck => absurd (er1.trans er2.symm) ck)
  exact K _ _ _ _ _ _ bb hw ⟨ca2, c2, m2, f, hLW2, hJ2⟩ (lv_sub hl [0, 1, 2, 3, 4] rfl) (by show cells + 0 + 0 + bb.1 ≤ 600128; omega) (by show slots + 0 + 0 + bb.2 ≤ 7301097; omega)
set_option maxHeartbeats 4000000 in
set_option maxRecDepth 100000 in
theorem lc_15 {p : Program} {l : Launch} {e : Env} {s : State} {m : MethodId} {below : List Frame} {meth : Method} {c : Code} {b L k n : Nat} {xs : Nat → Int32} (C0 : lw_At p s m meth c b L xs) (hL : L ≤ 384) (hk : 6 * k + 5 < L) {D : va_G} {cA : Nat → ClassId} {E : hp_N} {oq sgq sgv : Nat} (hG : cd_E E oq sgq sgv) (hM : md_E E) (hX1 : cd_X l E) (hX2 : cd_Y l E) (hnc : ∀ A U H, E A U H → va_Nc "java/lang/IllegalArgumentException" "java/lang/IllegalStateException" U) {ad : Nat → Nat → Nat} {am : Nat → Nat} {o : Nat} {C : Nat × Nat} (hjm : md_inj am) (hC : LC C) (hn : 60000000 ≤ n) (cx : hp_C p c cL_law meth ret 7 s m #[Value.ref b] ⟨RL, meth.name, ""⟩ lw_tbl) {g : hp_M} {H : Heap} {locs : List Loc} {ls : Array Slot} {cells slots : Nat} {bb : cd_B} (hw : hp_w D vwCl (hp_Tl cA) E (fun q => s.heap.size ≤ q) s H locs g) (hI : lw_I n cA ad am o C k g bb) (hl : lv_has ls 7 [(4, .int (nI (6 * k))), (3, .ref o), (2, .ref (am 137)), (1, .ref (ad 11 0)), (0, .ref b)]) (hcc : cells + bb.1 ≤ 600128) (hss : slots + bb.2 ≤ 7301097) (K : lw_K p l e s m below meth c b D cA E ad am o C n k) : W p l e room_1 s m #[Value.ref b] below meth c H locs cells slots (lw_Z below #[Value.ref b] s) (F0 m 729 ls []) := by
  obtain ⟨hx, hb, hr, hml, hown, hts, hX, hbl, hlocks, hgv⟩ := id C0
  have hbA : ¬ (fun q : Nat => s.heap.size ≤ q) b := Nat.not_le.mpr hbl
  obtain ⟨ca, c1, m1, f, hLW, hJ⟩ := hI
  have hk64 : k < 64 := by omega
  obtain ⟨hLT, t_fault, t_number, t_domain, t_unit, t_code, t_has, t_result, t_event, t_context, t_thread, t_count⟩ := law_tell (by omega) hLW (xs (6 * k + 1)) (xs (6 * k + 2)) (xs (6 * k + 3))
  obtain ⟨r, e1, e2⟩ := t_thread
  obtain ⟨m2, em⟩ : ∃ m2, m2 = mSI m1 0 0 := ⟨_, rfl⟩
  rw [← em] at e2 hLT
  have hLW2 := hLT
  obtain ⟨c2, ec⟩ : ∃ c2, c2 = c1 := ⟨c1, rfl⟩
  have e1 : f_X11_thread n c1 (xs (6 * k + 1)) (xs (6 * k + 2)) = some (r, c2) := by rw [ec]; exact e1
  rw [← ec] at hLW2
  refine lv_aload_n cx.1 cx.2.1 dL_law_729 rfl (lv_at hl 3 rfl) ?_
  refine lw_sc cx hw hX hbl hbA hl (i0 := 4) (i4 := 0) rfl rfl hk hL (j := 1) (by decide) (by decide) dL_law_730 dL_law_731 dL_law_733 dL_law_734 dL_law_735 ?_
  refine lw_sc cx hw hX hbl hbA hl (i0 := 4) (i4 := 0) rfl rfl hk hL (j := 2) (by decide) (by decide) dL_law_736 dL_law_737 dL_law_739 dL_law_740 dL_law_741 ?_
  refine hp_callFj (g1 := cd_pic cA ad ca c1) (As := [.int (xs (6 * k + 1)), .int (xs (6 * k + 2))]) (rest := []) cx hw hJ.2.1 (kc_X11_thread l D cA E _ ad ca hJ.1 oq sgq sgv hG n c1 (xs (6 * k + 1)) (xs (6 * k + 2)) (r, c2) e1) (cwV 2 cx.2.2.2.2.2.1 gl_97 rfl rfl rfl (by decide +kernel) ⟨Nat.le_of_ble_eq_true rfl, Nat.le_of_ble_eq_true rfl⟩) (hJ.2.1 _ _ (cd_atO hJ.1 (by decide) (by decide))) rfl rfl hl.1 rfl (Nat.le_of_ble_eq_true rfl) dL_law_742 ⟨by show cells + 0 ≤ 600128; omega, by show slots + 0 ≤ 7301097; omega⟩ (fun r1 u2 g3 H locs hp4 ha5 hb6 hc7 hw => ?_)
  obtain ⟨er1, ca2, hj2, eu⟩ := hp4
  subst eu
  have hJ1 : lw_J cA ad am o ca2 c2 m1 f g3 := hJ.cls hj2 ha5 hb6 hc7
  refine lv_aload_n cx.1 cx.2.1 dL_law_745 rfl (lv_at hl 2 rfl) ?_
  refine lw_sc cx hw hX hbl hbA hl (i0 := 4) (i4 := 0) rfl rfl hk hL (j := 1) (by decide) (by decide) dL_law_746 dL_law_747 dL_law_749 dL_law_750 dL_law_751 ?_
  refine lw_sc cx hw hX hbl hbA hl (i0 := 4) (i4 := 0) rfl rfl hk hL (j := 2) (by decide) (by decide) dL_law_752 dL_law_753 dL_law_755 dL_law_756 dL_law_757 ?_
  refine hp_callFj (g1 := md_pic cA am m1) (As := [.int (xs (6 * k + 1)), .int (xs (6 * k + 2))]) (rest := [.int r1]) cx hw hJ1.2.2.1 (km_X12_thread l D cA E _ am hjm hM n m1 (xs (6 * k + 1)) (xs (6 * k + 2)) (r, m2) e2) (cwV 2 cx.2.2.2.2.2.1 gl_100 rfl rfl rfl (by decide +kernel) ⟨Nat.le_of_ble_eq_true rfl, Nat.le_of_ble_eq_true rfl⟩) (hJ1.2.2.1 _ _ md_at0) rfl rfl hl.1 rfl (Nat.le_of_ble_eq_true rfl) dL_law_758 ⟨by show cells + 0 + 0 ≤ 600128; omega, by show slots + 0 + 0 ≤ 7301097; omega⟩ (fun r8 u9 g10 H locs hp11 ha12 hb13 hc14 hw => ?_)
  obtain ⟨er2, eu⟩ := hp11
  subst eu
  have hJ2 : lw_J cA ad am o ca2 c2 m2 f g10 := hJ1.mdl ha12 hb13
  refine lv_icmp_eq (tgt := 803) cx.1 cx.2.1 dL_law_761 (by decide) (fun _ => ?_) (fun ck => absurd (er1.trans er2.symm) ck)
  exact K _ _ _ _ _ _ bb hw ⟨ca2, c2, m2, f, hLW2, hJ2⟩ (lv_sub hl [0, 1, 2, 3, 4] rfl) (by show cells + 0 + 0 + bb.1 ≤ 600128; omega) (by show slots + 0 + 0 + bb.2 ≤ 7301097; omega)
set_option maxHeartbeats 4000000 in
set_option maxRecDepth 100000 in
theorem lc_16 {p : Program} {l : Launch} {e : Env} {s : State} {m : MethodId} {below : List Frame} {meth : Method} {c : Code} {b L k n : Nat} {xs : Nat → Int32} (C0 : lw_At p s m meth c b L xs) (hL : L ≤ 384) (hk : 6 * k + 5 < L) {D : va_G} {cA : Nat → ClassId} {E : hp_N} {oq sgq sgv : Nat} (hG : cd_E E oq sgq sgv) (hM : md_E E) (hX1 : cd_X l E) (hX2 : cd_Y l E) (hnc : ∀ A U H, E A U H → va_Nc "java/lang/IllegalArgumentException" "java/lang/IllegalStateException" U) {ad : Nat → Nat → Nat} {am : Nat → Nat} {o : Nat} {C : Nat × Nat} (hjm : md_inj am) (hC : LC C) (hn : 60000000 ≤ n) (cx : hp_C p c cL_law meth ret 7 s m #[Value.ref b] ⟨RL, meth.name, ""⟩ lw_tbl) {g : hp_M} {H : Heap} {locs : List Loc} {ls : Array Slot} {cells slots : Nat} {bb : cd_B} (hw : hp_w D vwCl (hp_Tl cA) E (fun q => s.heap.size ≤ q) s H locs g) (hI : lw_I n cA ad am o C k g bb) (hl : lv_has ls 7 [(4, .int (nI (6 * k))), (3, .ref o), (2, .ref (am 137)), (1, .ref (ad 11 0)), (0, .ref b)]) (hcc : cells + bb.1 ≤ 600128) (hss : slots + bb.2 ≤ 7301097) (K : lw_K p l e s m below meth c b D cA E ad am o C n k) : W p l e room_1 s m #[Value.ref b] below meth c H locs cells slots (lw_Z below #[Value.ref b] s) (F0 m 766 ls []) := by
  obtain ⟨hx, hb, hr, hml, hown, hts, hX, hbl, hlocks, hgv⟩ := id C0
  have hbA : ¬ (fun q : Nat => s.heap.size ≤ q) b := Nat.not_le.mpr hbl
  obtain ⟨ca, c1, m1, f, hLW, hJ⟩ := hI
  have hk64 : k < 64 := by omega
  obtain ⟨hLT, t_fault, t_number, t_domain, t_unit, t_code, t_has, t_result, t_event, t_context, t_thread, t_count⟩ := law_tell (by omega) hLW (xs (6 * k + 1)) (xs (6 * k + 2)) (xs (6 * k + 3))
  obtain ⟨r, e1, e2⟩ := t_context
  obtain ⟨m2, em⟩ : ∃ m2, m2 = mSI m1 0 0 := ⟨_, rfl⟩
  rw [← em] at e2 hLT
  have hLW2 := hLT
  obtain ⟨c2, ec⟩ : ∃ c2, c2 = c1 := ⟨c1, rfl⟩
  have e1 : f_X11_context n c1 (xs (6 * k + 1)) (xs (6 * k + 2)) = some (r, c2) := by rw [ec]; exact e1
  rw [← ec] at hLW2
  refine lv_aload_n cx.1 cx.2.1 dL_law_766 rfl (lv_at hl 3 rfl) ?_
  refine lw_sc cx hw hX hbl hbA hl (i0 := 4) (i4 := 0) rfl rfl hk hL (j := 1) (by decide) (by decide) dL_law_767 dL_law_768 dL_law_770 dL_law_771 dL_law_772 ?_
  refine lw_sc cx hw hX hbl hbA hl (i0 := 4) (i4 := 0) rfl rfl hk hL (j := 2) (by decide) (by decide) dL_law_773 dL_law_774 dL_law_776 dL_law_777 dL_law_778 ?_
  refine hp_callFj (g1 := cd_pic cA ad ca c1) (As := [.int (xs (6 * k + 1)), .int (xs (6 * k + 2))]) (rest := []) cx hw hJ.2.1 (kc_X11_context l D cA E _ ad ca hJ.1 oq sgq sgv hG n c1 (xs (6 * k + 1)) (xs (6 * k + 2)) (r, c2) e1) (cwV 2 cx.2.2.2.2.2.1 gl_101 rfl rfl rfl (by decide +kernel) ⟨Nat.le_of_ble_eq_true rfl, Nat.le_of_ble_eq_true rfl⟩) (hJ.2.1 _ _ (cd_atO hJ.1 (by decide) (by decide))) rfl rfl hl.1 rfl (Nat.le_of_ble_eq_true rfl) dL_law_779 ⟨by show cells + 0 ≤ 600128; omega, by show slots + 0 ≤ 7301097; omega⟩ (fun r1 u2 g3 H locs hp4 ha5 hb6 hc7 hw => ?_)
  obtain ⟨er1, ca2, hj2, eu⟩ := hp4
  subst eu
  have hJ1 : lw_J cA ad am o ca2 c2 m1 f g3 := hJ.cls hj2 ha5 hb6 hc7
  refine lv_aload_n cx.1 cx.2.1 dL_law_782 rfl (lv_at hl 2 rfl) ?_
  refine lw_sc cx hw hX hbl hbA hl (i0 := 4) (i4 := 0) rfl rfl hk hL (j := 1) (by decide) (by decide) dL_law_783 dL_law_784 dL_law_786 dL_law_787 dL_law_788 ?_
  refine lw_sc cx hw hX hbl hbA hl (i0 := 4) (i4 := 0) rfl rfl hk hL (j := 2) (by decide) (by decide) dL_law_789 dL_law_790 dL_law_792 dL_law_793 dL_law_794 ?_
  refine hp_callFj (g1 := md_pic cA am m1) (As := [.int (xs (6 * k + 1)), .int (xs (6 * k + 2))]) (rest := [.int r1]) cx hw hJ1.2.2.1 (km_X12_context l D cA E _ am hjm hM n m1 (xs (6 * k + 1)) (xs (6 * k + 2)) (r, m2) e2) (cwV 2 cx.2.2.2.2.2.1 gl_104 rfl rfl rfl (by decide +kernel) ⟨Nat.le_of_ble_eq_true rfl, Nat.le_of_ble_eq_true rfl⟩) (hJ1.2.2.1 _ _ md_at0) rfl rfl hl.1 rfl (Nat.le_of_ble_eq_true rfl) dL_law_795 ⟨by show cells + 0 + 0 ≤ 600128; omega, by show slots + 0 + 0 ≤ 7301097; omega⟩ (fun r8 u9 g10 H locs hp11 ha12 hb13 hc14 hw => ?_)
  obtain ⟨er2, eu⟩ := hp11
  subst eu
  have hJ2 : lw_J cA ad am o ca2 c2 m2 f g10 := hJ1.mdl ha12 hb13
  refine lv_icmp_eq (tgt := 803) cx.1 cx.2.1 dL_law_798 (by decide) (fun _ => ?_) (fun ck => absurd (er1.trans er2.symm) ck)
  exact K _ _ _ _ _ _ bb hw ⟨ca2, c2, m2, f, hLW2, hJ2⟩ (lv_sub hl [0, 1, 2, 3, 4] rfl) (by show cells + 0 + 0 + bb.1 ≤ 600128; omega) (by show slots + 0 + 0 + bb.2 ≤ 7301097; omega)
