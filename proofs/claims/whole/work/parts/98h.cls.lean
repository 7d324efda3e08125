set_option maxHeartbeats 4000000 in
set_option maxRecDepth 100000 in
theorem kc_X3_addLimit (l : Launch) (D : va_G) (cA : Nat → ClassId) (E : hp_N) (sz : Nat) (ad : Nat → Nat → Nat) (ca0 : Nat → Nat) (hj : cd_inj ad ca0) (oq sgq sgv : Nat) (hE : cd_E E oq sgq sgv) (n : Nat) (σ0 : cd_S) (p : (Int32 × cd_S)) (h : f_X3_addLimit n σ0 = some p) : Met l yX3_addLimit (Cond.code yX3_addLimit cX3_addLimit 1 none :: v_CLS) ({ frames := 0, cells := 0, slots := 0, locals := 0 }) (hp_Pc D vwCl (hp_Tl cA) E sz (cd_pic cA ad ca0 σ0) [.ref (ad 3 0)]) (hp_Qv D vwCl (hp_Tl cA) sz (cd_pic cA ad ca0 σ0) (fun u => ∃ ca1, cd_inj ad ca1 ∧ u = cd_pic cA ad ca1 p.2)) 0 0 (hp_A (cd_pic cA ad ca0 σ0) sz) := by
  refine hp_ofW (cc := cX3_addLimit) (maxL := 1) (ret := none) (by decide) rfl (Nat.le_of_ble_eq_true rfl) ?_
  intro pp ee ss mm bb mt cd ls cx hsz hw hl
  have hl : lv_has ls 1 [(0, .ref (ad 3 0))] := hl
  refine lv_aload_n cx.1 cx.2.1 dX3_addLimit_0 rfl (lv_at hl 0 rfl) ?_
  refine cd_gI (o := 3) (k := 11) (f := 107) hj cx hw hic3 rfl ⟨by decide, rfl, by decide, rfl⟩ rfl (by decide) (List.mem_cons_of_mem _ cm_336) dX3_addLimit_1 ?_
  refine lv_bipush (v := 12) cx.1 cx.2.1 dX3_addLimit_4 (by decide) ?_
  refine lv_icmp_ge (tgt := 29) cx.1 cx.2.1 dX3_addLimit_6 (by decide) (fun c6 => ?_) (fun c6 => ?_)
  · have h := md_ip c6 h
    exact hp_vret cx hw ((cd_ret hj h).2) dX3_addLimit_29
  · have h := md_in c6 h
    refine lv_aload_n cx.1 cx.2.1 dX3_addLimit_9 rfl (lv_at hl 0 rfl) ?_
    refine cd_gA (o := 3) (k := 3) (f := 99) hj cx hw hic3 rfl ⟨by decide, rfl, by decide, rfl⟩ rfl (by decide) (List.mem_cons_of_mem _ cm_337) dX3_addLimit_10 ?_
    refine lv_aload_n cx.1 cx.2.1 dX3_addLimit_13 rfl (lv_at hl 0 rfl) ?_
    refine cd_gI (o := 3) (k := 11) (f := 107) hj cx hw hic3 rfl ⟨by decide, rfl, by decide, rfl⟩ rfl (by decide) (List.mem_cons_of_mem _ cm_336) dX3_addLimit_14 ?_
    refine lv_iconst (v := 0) cx.1 cx.2.1 dX3_addLimit_17 (by decide) ?_
    obtain ⟨σ1, e_σ1, h⟩ := md_ob h
    refine cd_sI (f := 99) hj cx hw (by decide) (by decide) rfl e_σ1 dX3_addLimit_18 (fun H locs hw => ?_)
    refine lv_aload_n cx.1 cx.2.1 dX3_addLimit_19 rfl (lv_at hl 0 rfl) ?_
    refine lv_dup cx.1 cx.2.1 dX3_addLimit_20 rfl ?_
    refine cd_gI (o := 3) (k := 11) (f := 107) hj cx hw hic3 rfl ⟨by decide, rfl, by decide, rfl⟩ rfl (by decide) (List.mem_cons_of_mem _ cm_336) dX3_addLimit_21 ?_
    refine lv_iconst (v := 1) cx.1 cx.2.1 dX3_addLimit_24 (by decide) ?_
    refine lv_iadd cx.1 cx.2.1 dX3_addLimit_25 ?_
    obtain ⟨σ2, e_σ2, h⟩ := md_ob h
    refine cd_pI (o := 3) (k := 11) (f := 107) hj cx hw hic3 rfl ⟨by decide, rfl, by decide, rfl⟩ tyX3_ok nmX3 rfl (by decide) rfl (List.mem_cons_of_mem _ cm_336) rfl e_σ2 dX3_addLimit_26 (fun H locs hw => ?_)
    exact hp_vret cx hw ((cd_ret hj h).2) dX3_addLimit_29
set_option maxHeartbeats 4000000 in
set_option maxRecDepth 100000 in
theorem kc_X3_setRight (l : Launch) (D : va_G) (cA : Nat → ClassId) (E : hp_N) (sz : Nat) (ad : Nat → Nat → Nat) (ca0 : Nat → Nat) (hj : cd_inj ad ca0) (oq sgq sgv : Nat) (hE : cd_E E oq sgq sgv) (n : Nat) (σ0 : cd_S) (a1 : Int32) (a2 : Nat) (hb_a2 : a2 < 196) (p : (Int32 × cd_S)) (h : f_X3_setRight n σ0 a1 a2 = some p) : Met l yX3_setRight (Cond.code yX3_setRight cX3_setRight 3 none :: v_CLS) ({ frames := 1, cells := 0, slots := 0, locals := 22 }) (hp_Pc D vwCl (hp_Tl cA) E sz (cd_pic cA ad ca0 σ0) [.ref (ad 3 0), .int a1, .ref (ad 5 a2)]) (hp_Qv D vwCl (hp_Tl cA) sz (cd_pic cA ad ca0 σ0) (fun u => ∃ ca1, cd_inj ad ca1 ∧ u = cd_pic cA ad ca1 p.2)) 0 0 (hp_A (cd_pic cA ad ca0 σ0) sz) := by
  refine hp_ofW (cc := cX3_setRight) (maxL := 3) (ret := none) (by decide) rfl (Nat.le_of_ble_eq_true rfl) ?_
  intro pp ee ss mm bb mt cd ls cx hsz hw hl
  have hl : lv_has ls 3 [(0, .ref (ad 3 0)), (1, .int a1), (2, .ref (ad 5 a2))] := hl
  refine lv_iload_n cx.1 cx.2.1 dX3_setRight_0 rfl (lv_at hl 1 rfl) ?_
  refine lv_if_lt (tgt := 21) cx.1 cx.2.1 dX3_setRight_1 (by decide) (fun c1 => ?_) (fun c1 => ?_)
  · have h := md_ip c1 h
    exact hp_vret cx hw ((cd_ret hj h).2) dX3_setRight_21
  · have h := md_in c1 h
    refine lv_iload_n cx.1 cx.2.1 dX3_setRight_4 rfl (lv_at hl 1 rfl) ?_
    refine lv_sipush (v := 160) cx.1 cx.2.1 dX3_setRight_5 (by decide) ?_
    refine lv_icmp_ge (tgt := 21) cx.1 cx.2.1 dX3_setRight_8 (by decide) (fun c8 => ?_) (fun c8 => ?_)
    · have h := md_ip c8 h
      exact hp_vret cx hw ((cd_ret hj h).2) dX3_setRight_21
    · have h := md_in c8 h
      refine lv_aload_n cx.1 cx.2.1 dX3_setRight_11 rfl (lv_at hl 0 rfl) ?_
      refine cd_gA (o := 3) (k := 1) (f := 97) hj cx hw hic3 rfl ⟨by decide, rfl, by decide, rfl⟩ rfl (by decide) (List.mem_cons_of_mem _ cm_321) dX3_setRight_12 ?_
      refine lv_iload_n cx.1 cx.2.1 dX3_setRight_15 rfl (lv_at hl 1 rfl) ?_
      obtain ⟨u1, e_u1, h⟩ := md_ob h
      have hb_u1 : u1 < 168 := (cd_ldRs e_u1).2.2
      refine cd_lR (f := 97) (o2 := 5) hj cx hw (by decide) (by decide) rfl (by decide) rfl rfl e_u1 dX3_setRight_16 ?_
      refine lv_aload_n cx.1 cx.2.1 dX3_setRight_17 rfl (lv_at hl 2 rfl) ?_
      obtain ⟨p2, e_p2, h⟩ := md_ob h
      refine hp_callVv (As := [.ref (ad 5 a2)]) (rest := []) cx hw (kc_X5_take l D cA E _ ad _ hj oq sgq sgv hE n σ0 u1 a2 (show _ < 196 by omega) (show _ < 196 by omega) p2 e_p2) (cwV 1 cx.2.2.2.2.2.1 (cd_giV cm_313 cm_314 cm_315 cm_306 cm_316) rfl rfl rfl hdc_X5_take ⟨Nat.le_of_ble_eq_true rfl, Nat.le_of_ble_eq_true rfl⟩) (cd_atO hj (by decide) (show _ < 196 by omega)) rfl rfl hl.1 rfl (Nat.le_of_ble_eq_true rfl) dX3_setRight_18 ⟨Nat.le_refl _, Nat.le_refl _⟩ (fun u H locs hp hw => ?_)
      obtain ⟨ca, hj, rfl⟩ := hp
      exact hp_vret cx hw ((cd_ret hj h).2) dX3_setRight_21
set_option maxHeartbeats 4000000 in
set_option maxRecDepth 100000 in
theorem kc_X3_addGrantRight (l : Launch) (D : va_G) (cA : Nat → ClassId) (E : hp_N) (sz : Nat) (ad : Nat → Nat → Nat) (ca0 : Nat → Nat) (hj : cd_inj ad ca0) (oq sgq sgv : Nat) (hE : cd_E E oq sgq sgv) (n : Nat) (σ0 : cd_S) (a1 : Nat) (hb_a1 : a1 < 196) (p : (Int32 × cd_S)) (h : f_X3_addGrantRight n σ0 a1 = some p) : Met l yX3_addGrantRight (Cond.code yX3_addGrantRight cX3_addGrantRight 3 none :: v_CLS) ({ frames := 2, cells := 0, slots := 0, locals := 44 }) (hp_Pc D vwCl (hp_Tl cA) E sz (cd_pic cA ad ca0 σ0) [.ref (ad 3 0), .ref (ad 5 a1)]) (hp_Qv D vwCl (hp_Tl cA) sz (cd_pic cA ad ca0 σ0) (fun u => ∃ ca1, cd_inj ad ca1 ∧ u = cd_pic cA ad ca1 p.2)) 0 0 (hp_A (cd_pic cA ad ca0 σ0) sz) := by
  refine hp_ofW (cc := cX3_addGrantRight) (maxL := 3) (ret := none) (by decide) rfl (Nat.le_of_ble_eq_true rfl) ?_
  intro pp ee ss mm bb mt cd ls cx hsz hw hl
  have hl : lv_has ls 3 [(0, .ref (ad 3 0)), (1, .ref (ad 5 a1))] := hl
  refine lv_aload_n cx.1 cx.2.1 dX3_addGrantRight_0 rfl (lv_at hl 0 rfl) ?_
  refine cd_gI (o := 3) (k := 10) (f := 106) hj cx hw hic3 rfl ⟨by decide, rfl, by decide, rfl⟩ rfl (by decide) (List.mem_cons_of_mem _ cm_327) dX3_addGrantRight_1 ?_
  refine lv_iconst (v := 1) cx.1 cx.2.1 dX3_addGrantRight_4 (by decide) ?_
  refine lv_isub cx.1 cx.2.1 dX3_addGrantRight_5 ?_
  refine lv_istore_n (lv' := [(2, .int ((cI σ0 106 0) - 1)), (0, .ref (ad 3 0)), (1, .ref (ad 5 a1))]) cx.1 cx.2.1 dX3_addGrantRight_6 rfl hl (by decide) rfl (fun ls hl => ?_)
  refine lv_iload_n cx.1 cx.2.1 dX3_addGrantRight_7 rfl (lv_at hl 0 rfl) ?_
  refine lv_if_lt (tgt := 48) cx.1 cx.2.1 dX3_addGrantRight_8 (by decide) (fun c8 => ?_) (fun c8 => ?_)
  · have h := md_ip c8 h
    exact hp_vret cx hw ((cd_ret hj h).2) dX3_addGrantRight_48
  · have h := md_in c8 h
    refine lv_aload_n cx.1 cx.2.1 dX3_addGrantRight_11 rfl (lv_at hl 1 rfl) ?_
    refine cd_gA (o := 3) (k := 2) (f := 98) hj cx hw hic3 rfl ⟨by decide, rfl, by decide, rfl⟩ rfl (by decide) (List.mem_cons_of_mem _ cm_328) dX3_addGrantRight_12 ?_
    refine lv_iload_n cx.1 cx.2.1 dX3_addGrantRight_15 rfl (lv_at hl 0 rfl) ?_
    obtain ⟨v1, e_v1, h⟩ := md_ob h
    refine cd_lI (f := 98) hj cx hw (by decide) (by decide) rfl e_v1 dX3_addGrantRight_16 ?_
    refine lv_bipush (v := 8) cx.1 cx.2.1 dX3_addGrantRight_17 (by decide) ?_
    refine lv_icmp_ge (tgt := 48) cx.1 cx.2.1 dX3_addGrantRight_19 (by decide) (fun c19 => ?_) (fun c19 => ?_)
    · have h := md_ip c19 h
      exact hp_vret cx hw ((cd_ret hj h).2) dX3_addGrantRight_48
    · have h := md_in c19 h
      refine lv_aload_n cx.1 cx.2.1 dX3_addGrantRight_22 rfl (lv_at hl 1 rfl) ?_
      refine lv_iload_n cx.1 cx.2.1 dX3_addGrantRight_23 rfl (lv_at hl 0 rfl) ?_
      refine lv_bipush (v := 8) cx.1 cx.2.1 dX3_addGrantRight_24 (by decide) ?_
      refine lv_imul cx.1 cx.2.1 dX3_addGrantRight_26 ?_
      refine lv_aload_n cx.1 cx.2.1 dX3_addGrantRight_27 rfl (lv_at hl 1 rfl) ?_
      refine cd_gA (o := 3) (k := 2) (f := 98) hj cx hw hic3 rfl ⟨by decide, rfl, by decide, rfl⟩ rfl (by decide) (List.mem_cons_of_mem _ cm_328) dX3_addGrantRight_28 ?_
      refine lv_iload_n cx.1 cx.2.1 dX3_addGrantRight_31 rfl (lv_at hl 0 rfl) ?_
      obtain ⟨v2, e_v2, h⟩ := md_ob h
      refine cd_lI (f := 98) hj cx hw (by decide) (by decide) rfl e_v2 dX3_addGrantRight_32 ?_
      refine lv_iadd cx.1 cx.2.1 dX3_addGrantRight_33 ?_
      refine lv_aload_n cx.1 cx.2.1 dX3_addGrantRight_34 rfl (lv_at hl 2 rfl) ?_
      obtain ⟨p3, e_p3, h⟩ := md_ob h
      refine hp_callVv (As := [.int ((((cI σ0 106 0) - 1) * 8) + v2), .ref (ad 5 a1)]) (rest := []) cx hw (kc_X3_setRight l D cA E _ ad _ hj oq sgq sgv hE n σ0 (((((cI σ0 106 0) - 1) * 8) + v2)) a1 (show _ < 196 by omega) p3 e_p3) (cwV 2 cx.2.2.2.2.2.1 (cd_giV cm_645 cm_646 cm_647 cm_332 cm_648) rfl rfl rfl hdc_X3_setRight ⟨Nat.le_of_ble_eq_true rfl, Nat.le_of_ble_eq_true rfl⟩) (cd_atO hj (by decide) (by decide)) rfl rfl hl.1 rfl (Nat.le_of_ble_eq_true rfl) dX3_addGrantRight_35 ⟨Nat.le_refl _, Nat.le_refl _⟩ (fun u H locs hp hw => ?_)
      obtain ⟨ca, hj, rfl⟩ := hp
      refine lv_aload_n cx.1 cx.2.1 dX3_addGrantRight_38 rfl (lv_at hl 1 rfl) ?_
      refine cd_gA (o := 3) (k := 2) (f := 98) hj cx hw hic3 rfl ⟨by decide, rfl, by decide, rfl⟩ rfl (by decide) (List.mem_cons_of_mem _ cm_328) dX3_addGrantRight_39 ?_
      refine lv_iload_n cx.1 cx.2.1 dX3_addGrantRight_42 rfl (lv_at hl 0 rfl) ?_
      refine lv_dup2_11 cx.1 cx.2.1 dX3_addGrantRight_43 rfl rfl ?_
      obtain ⟨v4, e_v4, h⟩ := md_ob h
      refine cd_lI (f := 98) hj cx hw (by decide) (by decide) rfl e_v4 dX3_addGrantRight_44 ?_
      refine lv_iconst (v := 1) cx.1 cx.2.1 dX3_addGrantRight_45 (by decide) ?_
      refine lv_iadd cx.1 cx.2.1 dX3_addGrantRight_46 ?_
      obtain ⟨σ5, e_σ5, h⟩ := md_ob h
      refine cd_sI (f := 98) hj cx hw (by decide) (by decide) rfl e_σ5 dX3_addGrantRight_47 (fun H locs hw => ?_)
      exact hp_vret cx hw ((cd_ret hj h).2) dX3_addGrantRight_48
set_option maxHeartbeats 4000000 in
set_option maxRecDepth 100000 in
theorem kc_X3_addLimitRight (l : Launch) (D : va_G) (cA : Nat → ClassId) (E : hp_N) (sz : Nat) (ad : Nat → Nat → Nat) (ca0 : Nat → Nat) (hj : cd_inj ad ca0) (oq sgq sgv : Nat) (hE : cd_E E oq sgq sgv) (n : Nat) (σ0 : cd_S) (a1 : Nat) (hb_a1 : a1 < 196) (p : (Int32 × cd_S)) (h : f_X3_addLimitRight n σ0 a1 = some p) : Met l yX3_addLimitRight (Cond.code yX3_addLimitRight cX3_addLimitRight 3 none :: v_CLS) ({ frames := 2, cells := 0, slots := 0, locals := 44 }) (hp_Pc D vwCl (hp_Tl cA) E sz (cd_pic cA ad ca0 σ0) [.ref (ad 3 0), .ref (ad 5 a1)]) (hp_Qv D vwCl (hp_Tl cA) sz (cd_pic cA ad ca0 σ0) (fun u => ∃ ca1, cd_inj ad ca1 ∧ u = cd_pic cA ad ca1 p.2)) 0 0 (hp_A (cd_pic cA ad ca0 σ0) sz) := by
  refine hp_ofW (cc := cX3_addLimitRight) (maxL := 3) (ret := none) (by decide) rfl (Nat.le_of_ble_eq_true rfl) ?_
  intro pp ee ss mm bb mt cd ls cx hsz hw hl
  have hl : lv_has ls 3 [(0, .ref (ad 3 0)), (1, .ref (ad 5 a1))] := hl
  refine lv_aload_n cx.1 cx.2.1 dX3_addLimitRight_0 rfl (lv_at hl 0 rfl) ?_
  refine cd_gI (o := 3) (k := 11) (f := 107) hj cx hw hic3 rfl ⟨by decide, rfl, by decide, rfl⟩ rfl (by decide) (List.mem_cons_of_mem _ cm_336) dX3_addLimitRight_1 ?_
  refine lv_iconst (v := 1) cx.1 cx.2.1 dX3_addLimitRight_4 (by decide) ?_
  refine lv_isub cx.1 cx.2.1 dX3_addLimitRight_5 ?_
  refine lv_istore_n (lv' := [(2, .int ((cI σ0 107 0) - 1)), (0, .ref (ad 3 0)), (1, .ref (ad 5 a1))]) cx.1 cx.2.1 dX3_addLimitRight_6 rfl hl (by decide) rfl (fun ls hl => ?_)
  refine lv_iload_n cx.1 cx.2.1 dX3_addLimitRight_7 rfl (lv_at hl 0 rfl) ?_
  refine lv_if_lt (tgt := 51) cx.1 cx.2.1 dX3_addLimitRight_8 (by decide) (fun c8 => ?_) (fun c8 => ?_)
  · have h := md_ip c8 h
    exact hp_vret cx hw ((cd_ret hj h).2) dX3_addLimitRight_51
  · have h := md_in c8 h
    refine lv_aload_n cx.1 cx.2.1 dX3_addLimitRight_11 rfl (lv_at hl 1 rfl) ?_
    refine cd_gA (o := 3) (k := 3) (f := 99) hj cx hw hic3 rfl ⟨by decide, rfl, by decide, rfl⟩ rfl (by decide) (List.mem_cons_of_mem _ cm_337) dX3_addLimitRight_12 ?_
    refine lv_iload_n cx.1 cx.2.1 dX3_addLimitRight_15 rfl (lv_at hl 0 rfl) ?_
    obtain ⟨v1, e_v1, h⟩ := md_ob h
    refine cd_lI (f := 99) hj cx hw (by decide) (by decide) rfl e_v1 dX3_addLimitRight_16 ?_
    refine lv_bipush (v := 8) cx.1 cx.2.1 dX3_addLimitRight_17 (by decide) ?_
    refine lv_icmp_ge (tgt := 51) cx.1 cx.2.1 dX3_addLimitRight_19 (by decide) (fun c19 => ?_) (fun c19 => ?_)
    · have h := md_ip c19 h
      exact hp_vret cx hw ((cd_ret hj h).2) dX3_addLimitRight_51
    · have h := md_in c19 h
      refine lv_aload_n cx.1 cx.2.1 dX3_addLimitRight_22 rfl (lv_at hl 1 rfl) ?_
      refine lv_bipush (v := 64) cx.1 cx.2.1 dX3_addLimitRight_23 (by decide) ?_
      refine lv_iload_n cx.1 cx.2.1 dX3_addLimitRight_25 rfl (lv_at hl 0 rfl) ?_
      refine lv_bipush (v := 8) cx.1 cx.2.1 dX3_addLimitRight_26 (by decide) ?_
      refine lv_imul cx.1 cx.2.1 dX3_addLimitRight_28 ?_
      refine lv_iadd cx.1 cx.2.1 dX3_addLimitRight_29 ?_
      refine lv_aload_n cx.1 cx.2.1 dX3_addLimitRight_30 rfl (lv_at hl 1 rfl) ?_
      refine cd_gA (o := 3) (k := 3) (f := 99) hj cx hw hic3 rfl ⟨by decide, rfl, by decide, rfl⟩ rfl (by decide) (List.mem_cons_of_mem _ cm_337) dX3_addLimitRight_31 ?_
      refine lv_iload_n cx.1 cx.2.1 dX3_addLimitRight_34 rfl (lv_at hl 0 rfl) ?_
      obtain ⟨v2, e_v2, h⟩ := md_ob h
      refine cd_lI (f := 99) hj cx hw (by decide) (by decide) rfl e_v2 dX3_addLimitRight_35 ?_
      refine lv_iadd cx.1 cx.2.1 dX3_addLimitRight_36 ?_
      refine lv_aload_n cx.1 cx.2.1 dX3_addLimitRight_37 rfl (lv_at hl 2 rfl) ?_
      obtain ⟨p3, e_p3, h⟩ := md_ob h
      refine hp_callVv (As := [.int (((64 : Int32) + (((cI σ0 107 0) - 1) * 8)) + v2), .ref (ad 5 a1)]) (rest := []) cx hw (kc_X3_setRight l D cA E _ ad _ hj oq sgq sgv hE n σ0 ((((64 : Int32) + (((cI σ0 107 0) - 1) * 8)) + v2)) a1 (show _ < 196 by omega) p3 e_p3) (cwV 2 cx.2.2.2.2.2.1 (cd_giV cm_645 cm_646 cm_647 cm_332 cm_648) rfl rfl rfl hdc_X3_setRight ⟨Nat.le_of_ble_eq_true rfl, Nat.le_of_ble_eq_true rfl⟩) (cd_atO hj (by decide) (by decide)) rfl rfl hl.1 rfl (Nat.le_of_ble_eq_true rfl) dX3_addLimitRight_38 ⟨Nat.le_refl _, Nat.le_refl _⟩ (fun u H locs hp hw => ?_)
      obtain ⟨ca, hj, rfl⟩ := hp
      refine lv_aload_n cx.1 cx.2.1 dX3_addLimitRight_41 rfl (lv_at hl 1 rfl) ?_
      refine cd_gA (o := 3) (k := 3) (f := 99) hj cx hw hic3 rfl ⟨by decide, rfl, by decide, rfl⟩ rfl (by decide) (List.mem_cons_of_mem _ cm_337) dX3_addLimitRight_42 ?_
      refine lv_iload_n cx.1 cx.2.1 dX3_addLimitRight_45 rfl (lv_at hl 0 rfl) ?_
      refine lv_dup2_11 cx.1 cx.2.1 dX3_addLimitRight_46 rfl rfl ?_
      obtain ⟨v4, e_v4, h⟩ := md_ob h
      refine cd_lI (f := 99) hj cx hw (by decide) (by decide) rfl e_v4 dX3_addLimitRight_47 ?_
      refine lv_iconst (v := 1) cx.1 cx.2.1 dX3_addLimitRight_48 (by decide) ?_
      refine lv_iadd cx.1 cx.2.1 dX3_addLimitRight_49 ?_
      obtain ⟨σ5, e_σ5, h⟩ := md_ob h
      refine cd_sI (f := 99) hj cx hw (by decide) (by decide) rfl e_σ5 dX3_addLimitRight_50 (fun H locs hw => ?_)
      exact hp_vret cx hw ((cd_ret hj h).2) dX3_addLimitRight_51
set_option maxHeartbeats 4000000 in
set_option maxRecDepth 100000 in
theorem kc_X3_addAsking (l : Launch) (D : va_G) (cA : Nat → ClassId) (E : hp_N) (sz : Nat) (ad : Nat → Nat → Nat) (ca0 : Nat → Nat) (hj : cd_inj ad ca0) (oq sgq sgv : Nat) (hE : cd_E E oq sgq sgv) (n : Nat) (σ0 : cd_S) (p : (Int32 × cd_S)) (h : f_X3_addAsking n σ0 = some p) : Met l yX3_addAsking (Cond.code yX3_addAsking cX3_addAsking 1 none :: v_CLS) ({ frames := 0, cells := 0, slots := 0, locals := 0 }) (hp_Pc D vwCl (hp_Tl cA) E sz (cd_pic cA ad ca0 σ0) [.ref (ad 3 0)]) (hp_Qv D vwCl (hp_Tl cA) sz (cd_pic cA ad ca0 σ0) (fun u => ∃ ca1, cd_inj ad ca1 ∧ u = cd_pic cA ad ca1 p.2)) 0 0 (hp_A (cd_pic cA ad ca0 σ0) sz) := by
  refine hp_ofW (cc := cX3_addAsking) (maxL := 1) (ret := none) (by decide) rfl (Nat.le_of_ble_eq_true rfl) ?_
  intro pp ee ss mm bb mt cd ls cx hsz hw hl
  have hl : lv_has ls 1 [(0, .ref (ad 3 0))] := hl
  refine lv_aload_n cx.1 cx.2.1 dX3_addAsking_0 rfl (lv_at hl 0 rfl) ?_
  refine cd_gI (o := 3) (k := 13) (f := 109) hj cx hw hic3 rfl ⟨by decide, rfl, by decide, rfl⟩ rfl (by decide) (List.mem_cons_of_mem _ cm_310) dX3_addAsking_1 ?_
  refine lv_bipush (v := 24) cx.1 cx.2.1 dX3_addAsking_4 (by decide) ?_
  refine lv_icmp_ge (tgt := 29) cx.1 cx.2.1 dX3_addAsking_6 (by decide) (fun c6 => ?_) (fun c6 => ?_)
  · have h := md_ip c6 h
    exact hp_vret cx hw ((cd_ret hj h).2) dX3_addAsking_29
  · have h := md_in c6 h
    refine lv_aload_n cx.1 cx.2.1 dX3_addAsking_9 rfl (lv_at hl 0 rfl) ?_
    refine cd_gA (o := 3) (k := 7) (f := 103) hj cx hw hic3 rfl ⟨by decide, rfl, by decide, rfl⟩ rfl (by decide) (List.mem_cons_of_mem _ cm_339) dX3_addAsking_10 ?_
    refine lv_aload_n cx.1 cx.2.1 dX3_addAsking_13 rfl (lv_at hl 0 rfl) ?_
    refine cd_gI (o := 3) (k := 13) (f := 109) hj cx hw hic3 rfl ⟨by decide, rfl, by decide, rfl⟩ rfl (by decide) (List.mem_cons_of_mem _ cm_310) dX3_addAsking_14 ?_
    refine lv_iconst (v := 0) cx.1 cx.2.1 dX3_addAsking_17 (by decide) ?_
    obtain ⟨σ1, e_σ1, h⟩ := md_ob h
    refine cd_sZ (f := 103) hj cx hw (by decide) (by decide) rfl e_σ1 dX3_addAsking_18 (fun H locs hw => ?_)
    refine lv_aload_n cx.1 cx.2.1 dX3_addAsking_19 rfl (lv_at hl 0 rfl) ?_
    refine lv_dup cx.1 cx.2.1 dX3_addAsking_20 rfl ?_
    refine cd_gI (o := 3) (k := 13) (f := 109) hj cx hw hic3 rfl ⟨by decide, rfl, by decide, rfl⟩ rfl (by decide) (List.mem_cons_of_mem _ cm_310) dX3_addAsking_21 ?_
    refine lv_iconst (v := 1) cx.1 cx.2.1 dX3_addAsking_24 (by decide) ?_
    refine lv_iadd cx.1 cx.2.1 dX3_addAsking_25 ?_
    obtain ⟨σ2, e_σ2, h⟩ := md_ob h
    refine cd_pI (o := 3) (k := 13) (f := 109) hj cx hw hic3 rfl ⟨by decide, rfl, by decide, rfl⟩ tyX3_ok nmX3 rfl (by decide) rfl (List.mem_cons_of_mem _ cm_310) rfl e_σ2 dX3_addAsking_26 (fun H locs hw => ?_)
    exact hp_vret cx hw ((cd_ret hj h).2) dX3_addAsking_29
set_option maxHeartbeats 4000000 in
set_option maxRecDepth 100000 in
theorem kc_X3_setAsking (l : Launch) (D : va_G) (cA : Nat → ClassId) (E : hp_N) (sz : Nat) (ad : Nat → Nat → Nat) (ca0 : Nat → Nat) (hj : cd_inj ad ca0) (oq sgq sgv : Nat) (hE : cd_E E oq sgq sgv) (n : Nat) (σ0 : cd_S) (a1 : Int32) (a2 : Nat) (hb_a2 : a2 < 196) (p : (Int32 × cd_S)) (h : f_X3_setAsking n σ0 a1 a2 = some p) : Met l yX3_setAsking (Cond.code yX3_setAsking cX3_setAsking 3 none :: v_CLS) ({ frames := 1, cells := 0, slots := 0, locals := 22 }) (hp_Pc D vwCl (hp_Tl cA) E sz (cd_pic cA ad ca0 σ0) [.ref (ad 3 0), .int a1, .ref (ad 5 a2)]) (hp_Qv D vwCl (hp_Tl cA) sz (cd_pic cA ad ca0 σ0) (fun u => ∃ ca1, cd_inj ad ca1 ∧ u = cd_pic cA ad ca1 p.2)) 0 0 (hp_A (cd_pic cA ad ca0 σ0) sz) := by
  refine hp_ofW (cc := cX3_setAsking) (maxL := 3) (ret := none) (by decide) rfl (Nat.le_of_ble_eq_true rfl) ?_
  intro pp ee ss mm bb mt cd ls cx hsz hw hl
  have hl : lv_has ls 3 [(0, .ref (ad 3 0)), (1, .int a1), (2, .ref (ad 5 a2))] := hl
  refine lv_iload_n cx.1 cx.2.1 dX3_setAsking_0 rfl (lv_at hl 1 rfl) ?_
  refine lv_if_lt (tgt := 22) cx.1 cx.2.1 dX3_setAsking_1 (by decide) (fun c1 => ?_) (fun c1 => ?_)
  · have h := md_ip c1 h
    exact hp_vret cx hw ((cd_ret hj h).2) dX3_setAsking_22
  · have h := md_in c1 h
    refine lv_iload_n cx.1 cx.2.1 dX3_setAsking_4 rfl (lv_at hl 1 rfl) ?_
    refine lv_aload_n cx.1 cx.2.1 dX3_setAsking_5 rfl (lv_at hl 0 rfl) ?_
    refine cd_gI (o := 3) (k := 13) (f := 109) hj cx hw hic3 rfl ⟨by decide, rfl, by decide, rfl⟩ rfl (by decide) (List.mem_cons_of_mem _ cm_310) dX3_setAsking_6 ?_
    refine lv_icmp_ge (tgt := 22) cx.1 cx.2.1 dX3_setAsking_9 (by decide) (fun c9 => ?_) (fun c9 => ?_)
    · have h := md_ip c9 h
      exact hp_vret cx hw ((cd_ret hj h).2) dX3_setAsking_22
    · have h := md_in c9 h
      refine lv_aload_n cx.1 cx.2.1 dX3_setAsking_12 rfl (lv_at hl 0 rfl) ?_
      refine cd_gA (o := 3) (k := 6) (f := 102) hj cx hw hic3 rfl ⟨by decide, rfl, by decide, rfl⟩ rfl (by decide) (List.mem_cons_of_mem _ cm_312) dX3_setAsking_13 ?_
      refine lv_iload_n cx.1 cx.2.1 dX3_setAsking_16 rfl (lv_at hl 1 rfl) ?_
      obtain ⟨u1, e_u1, h⟩ := md_ob h
      have hb_u1 : u1 < 192 := (cd_ldRs e_u1).2.2
      refine cd_lR (f := 102) (o2 := 5) hj cx hw (by decide) (by decide) rfl (by decide) rfl rfl e_u1 dX3_setAsking_17 ?_
      refine lv_aload_n cx.1 cx.2.1 dX3_setAsking_18 rfl (lv_at hl 2 rfl) ?_
      obtain ⟨p2, e_p2, h⟩ := md_ob h
      refine hp_callVv (As := [.ref (ad 5 a2)]) (rest := []) cx hw (kc_X5_take l D cA E _ ad _ hj oq sgq sgv hE n σ0 u1 a2 (show _ < 196 by omega) (show _ < 196 by omega) p2 e_p2) (cwV 1 cx.2.2.2.2.2.1 (cd_giV cm_313 cm_314 cm_315 cm_306 cm_316) rfl rfl rfl hdc_X5_take ⟨Nat.le_of_ble_eq_true rfl, Nat.le_of_ble_eq_true rfl⟩) (cd_atO hj (by decide) (show _ < 196 by omega)) rfl rfl hl.1 rfl (Nat.le_of_ble_eq_true rfl) dX3_setAsking_19 ⟨Nat.le_refl _, Nat.le_refl _⟩ (fun u H locs hp hw => ?_)
      obtain ⟨ca, hj, rfl⟩ := hp
      exact hp_vret cx hw ((cd_ret hj h).2) dX3_setAsking_22
set_option maxHeartbeats 4000000 in
set_option maxRecDepth 100000 in
theorem kc_X3_setIndexed (l : Launch) (D : va_G) (cA : Nat → ClassId) (E : hp_N) (sz : Nat) (ad : Nat → Nat → Nat) (ca0 : Nat → Nat) (hj : cd_inj ad ca0) (oq sgq sgv : Nat) (hE : cd_E E oq sgq sgv) (n : Nat) (σ0 : cd_S) (a1 : Int32) (p : (Int32 × cd_S)) (h : f_X3_setIndexed n σ0 a1 = some p) : Met l yX3_setIndexed (Cond.code yX3_setIndexed cX3_setIndexed 2 none :: v_CLS) ({ frames := 0, cells := 0, slots := 0, locals := 0 }) (hp_Pc D vwCl (hp_Tl cA) E sz (cd_pic cA ad ca0 σ0) [.ref (ad 3 0), .int a1]) (hp_Qv D vwCl (hp_Tl cA) sz (cd_pic cA ad ca0 σ0) (fun u => ∃ ca1, cd_inj ad ca1 ∧ u = cd_pic cA ad ca1 p.2)) 0 0 (hp_A (cd_pic cA ad ca0 σ0) sz) := by
  refine hp_ofW (cc := cX3_setIndexed) (maxL := 2) (ret := none) (by decide) rfl (Nat.le_of_ble_eq_true rfl) ?_
  intro pp ee ss mm bb mt cd ls cx hsz hw hl
  have hl : lv_has ls 2 [(0, .ref (ad 3 0)), (1, .int a1)] := hl
  refine lv_iload_n cx.1 cx.2.1 dX3_setIndexed_0 rfl (lv_at hl 1 rfl) ?_
  refine lv_if_lt (tgt := 19) cx.1 cx.2.1 dX3_setIndexed_1 (by decide) (fun c1 => ?_) (fun c1 => ?_)
  · have h := md_ip c1 h
    exact hp_vret cx hw ((cd_ret hj h).2) dX3_setIndexed_19
  · have h := md_in c1 h
    refine lv_iload_n cx.1 cx.2.1 dX3_setIndexed_4 rfl (lv_at hl 1 rfl) ?_
    refine lv_aload_n cx.1 cx.2.1 dX3_setIndexed_5 rfl (lv_at hl 0 rfl) ?_
    refine cd_gI (o := 3) (k := 13) (f := 109) hj cx hw hic3 rfl ⟨by decide, rfl, by decide, rfl⟩ rfl (by decide) (List.mem_cons_of_mem _ cm_310) dX3_setIndexed_6 ?_
    refine lv_icmp_ge (tgt := 19) cx.1 cx.2.1 dX3_setIndexed_9 (by decide) (fun c9 => ?_) (fun c9 => ?_)
    · have h := md_ip c9 h
      exact hp_vret cx hw ((cd_ret hj h).2) dX3_setIndexed_19
    · have h := md_in c9 h
      refine lv_aload_n cx.1 cx.2.1 dX3_setIndexed_12 rfl (lv_at hl 0 rfl) ?_
      refine cd_gA (o := 3) (k := 7) (f := 103) hj cx hw hic3 rfl ⟨by decide, rfl, by decide, rfl⟩ rfl (by decide) (List.mem_cons_of_mem _ cm_339) dX3_setIndexed_13 ?_
      refine lv_iload_n cx.1 cx.2.1 dX3_setIndexed_16 rfl (lv_at hl 1 rfl) ?_
      refine lv_iconst (v := 1) cx.1 cx.2.1 dX3_setIndexed_17 (by decide) ?_
      obtain ⟨σ1, e_σ1, h⟩ := md_ob h
      refine cd_sZ (f := 103) hj cx hw (by decide) (by decide) rfl e_σ1 dX3_setIndexed_18 (fun H locs hw => ?_)
      exact hp_vret cx hw ((cd_ret hj h).2) dX3_setIndexed_19
set_option maxHeartbeats 4000000 in
set_option maxRecDepth 100000 in
theorem kc_X3_placeModule (l : Launch) (D : va_G) (cA : Nat → ClassId) (E : hp_N) (sz : Nat) (ad : Nat → Nat → Nat) (ca0 : Nat → Nat) (hj : cd_inj ad ca0) (oq sgq sgv : Nat) (hE : cd_E E oq sgq sgv) (n : Nat) (σ0 : cd_S) (a1 : Int32) (a2 : Nat) (hb_a2 : a2 < 196) (p : (Int32 × cd_S)) (h : f_X3_placeModule n σ0 a1 a2 = some p) : Met l yX3_placeModule (Cond.code yX3_placeModule cX3_placeModule 5 none :: v_CLS) ({ frames := 1, cells := 0, slots := 0, locals := 24 }) (hp_Pc D vwCl (hp_Tl cA) E sz (cd_pic cA ad ca0 σ0) [.ref (ad 3 0), .int a1, .ref (ad 5 a2)]) (hp_Qv D vwCl (hp_Tl cA) sz (cd_pic cA ad ca0 σ0) (fun u => ∃ ca1, cd_inj ad ca1 ∧ u = cd_pic cA ad ca1 p.2)) 0 0 (hp_A (cd_pic cA ad ca0 σ0) sz) := by
  refine hp_ofW (cc := cX3_placeModule) (maxL := 5) (ret := none) (by decide) rfl (Nat.le_of_ble_eq_true rfl) ?_
  intro pp ee ss mm bb mt cd ls cx hsz hw hl
  have hl : lv_has ls 5 [(0, .ref (ad 3 0)), (1, .int a1), (2, .ref (ad 5 a2))] := hl
  have J119 : ∀ (ca : Nat → Nat) (hj : cd_inj ad ca) (σ : cd_S) (l1 : Int32) (l4 : Int32) (H : Heap) (locs : List Loc) (ls : Array Slot), f_X3_placeModule_J119 n a2 σ l1 l4 = some p → hp_w D vwCl (hp_Tl cA) E (hp_A (cd_pic cA ad ca0 σ0) sz) ss H locs (cd_pic cA ad ca σ) → lv_has ls 5 [(0, .ref (ad 3 0)), (1, .int l1), (4, .int l4)] → W pp l ee ({ frames := 1, cells := 0, slots := 0, locals := 24 }) ss mm [.ref (ad 3 0), .int a1, .ref (ad 5 a2)].toArray bb mt cd H locs 0 0 (MQ bb (hp_Qv D vwCl (hp_Tl cA) sz (cd_pic cA ad ca0 σ0) (fun u => ∃ ca1, cd_inj ad ca1 ∧ u = cd_pic cA ad ca1 p.2)) [.ref (ad 3 0), .int a1, .ref (ad 5 a2)].toArray ss 0 0 (hp_A (cd_pic cA ad ca0 σ0) sz)) (F0 mm 119 ls []) := by
    intro ca hj σ l1 l4 H locs ls h hw hl
    refine lv_aload_n cx.1 cx.2.1 dX3_placeModule_119 rfl (lv_at hl 0 rfl) ?_
    refine cd_gA (o := 3) (k := 5) (f := 101) hj cx hw hic3 rfl ⟨by decide, rfl, by decide, rfl⟩ rfl (by decide) (List.mem_cons_of_mem _ cm_532) dX3_placeModule_120 ?_
    refine lv_iload_n cx.1 cx.2.1 dX3_placeModule_123 rfl (lv_at hl 1 rfl) ?_
    refine lv_iload cx.1 cx.2.1 dX3_placeModule_124 (lv_at hl 2 rfl) ?_
    obtain ⟨σ1, e_σ1, h⟩ := md_ob h
    refine cd_sI (f := 101) hj cx hw (by decide) (by decide) rfl e_σ1 dX3_placeModule_126 (fun H locs hw => ?_)
    exact hp_vret cx hw ((cd_ret hj h).2) dX3_placeModule_127
  refine lv_iload_n cx.1 cx.2.1 dX3_placeModule_0 rfl (lv_at hl 1 rfl) ?_
  refine lv_if_lt (tgt := 10) cx.1 cx.2.1 dX3_placeModule_1 (by decide) (fun c1 => ?_) (fun c1 => ?_)
  · have h := md_ip c1 h
    exact hp_vret cx hw ((cd_ret hj h).2) dX3_placeModule_10
  · have h := md_in c1 h
    refine lv_iload_n cx.1 cx.2.1 dX3_placeModule_4 rfl (lv_at hl 1 rfl) ?_
    refine lv_bipush (v := 8) cx.1 cx.2.1 dX3_placeModule_5 (by decide) ?_
    refine lv_icmp_lt (tgt := 11) cx.1 cx.2.1 dX3_placeModule_7 (by decide) (fun c7 => ?_) (fun c7 => ?_)
    · have h := md_ip c7 h
      refine lv_iconst (v := 0) cx.1 cx.2.1 dX3_placeModule_11 (by decide) ?_
      refine lv_istore_n (lv' := [(3, .int 0), (0, .ref (ad 3 0)), (1, .int a1), (2, .ref (ad 5 a2))]) cx.1 cx.2.1 dX3_placeModule_12 rfl hl (by decide) rfl (fun ls hl => ?_)
      refine lv_iconst (v := 0) cx.1 cx.2.1 dX3_placeModule_13 (by decide) ?_
      refine lv_istore (lv' := [(4, .int 0), (3, .int 0), (0, .ref (ad 3 0)), (1, .int a1), (2, .ref (ad 5 a2))]) cx.1 cx.2.1 dX3_placeModule_14 hl (by decide) rfl (fun ls hl => ?_)
      have L16 : ∀ (j : Nat) (ca : Nat → Nat) (hj : cd_inj ad ca) (σ : cd_S) (l1 : Int32) (l3 : Int32) (l4 : Int32) (q : (cd_S × Int32 × Int32)) (H : Heap) (locs : List Loc) (ls : Array Slot), f_X3_placeModule_L16 n a2 l1 j σ l3 l4 = some q → hp_w D vwCl (hp_Tl cA) E (hp_A (cd_pic cA ad ca0 σ0) sz) ss H locs (cd_pic cA ad ca σ) → lv_has ls 5 [(0, .ref (ad 3 0)), (1, .int l1), (2, .ref (ad 5 a2)), (3, .int l3), (4, .int l4)] → (∀ (ca : Nat → Nat) (hj : cd_inj ad ca) (H : Heap) (locs : List Loc) (ls : Array Slot), hp_w D vwCl (hp_Tl cA) E (hp_A (cd_pic cA ad ca0 σ0) sz) ss H locs (cd_pic cA ad ca q.1) → lv_has ls 5 [(0, .ref (ad 3 0)), (1, .int l1), (3, .int q.2.1)] → W pp l ee ({ frames := 1, cells := 0, slots := 0, locals := 24 }) ss mm [.ref (ad 3 0), .int a1, .ref (ad 5 a2)].toArray bb mt cd H locs 0 0 (MQ bb (hp_Qv D vwCl (hp_Tl cA) sz (cd_pic cA ad ca0 σ0) (fun u => ∃ ca1, cd_inj ad ca1 ∧ u = cd_pic cA ad ca1 p.2)) [.ref (ad 3 0), .int a1, .ref (ad 5 a2)].toArray ss 0 0 (hp_A (cd_pic cA ad ca0 σ0) sz)) (F0 mm 56 ls [])) → W pp l ee ({ frames := 1, cells := 0, slots := 0, locals := 24 }) ss mm [.ref (ad 3 0), .int a1, .ref (ad 5 a2)].toArray bb mt cd H locs 0 0 (MQ bb (hp_Qv D vwCl (hp_Tl cA) sz (cd_pic cA ad ca0 σ0) (fun u => ∃ ca1, cd_inj ad ca1 ∧ u = cd_pic cA ad ca1 p.2)) [.ref (ad 3 0), .int a1, .ref (ad 5 a2)].toArray ss 0 0 (hp_A (cd_pic cA ad ca0 σ0) sz)) (F0 mm 16 ls []) := by
        intro j
        induction j with
        | zero => intro ca hj σ l1 l3 l4 q H locs ls h; exact nomatch h
        | succ j ih =>
          intro ca hj σ l1 l3 l4 q H locs ls h hw hl K
          unfold f_X3_placeModule_L16 at h
          have J48 : ∀ (ca : Nat → Nat) (hj : cd_inj ad ca) (σ : cd_S) (l4 : Int32) (t0 : Int32) (t1 : Int32) (H : Heap) (locs : List Loc) (ls : Array Slot), f_X3_placeModule_J48 n a2 l1 (f_X3_placeModule_L16 n a2 l1 j) σ l4 t0 t1 = some q → hp_w D vwCl (hp_Tl cA) E (hp_A (cd_pic cA ad ca0 σ0) sz) ss H locs (cd_pic cA ad ca σ) → lv_has ls 5 [(0, .ref (ad 3 0)), (1, .int l1), (2, .ref (ad 5 a2)), (4, .int l4)] → W pp l ee ({ frames := 1, cells := 0, slots := 0, locals := 24 }) ss mm [.ref (ad 3 0), .int a1, .ref (ad 5 a2)].toArray bb mt cd H locs 0 0 (MQ bb (hp_Qv D vwCl (hp_Tl cA) sz (cd_pic cA ad ca0 σ0) (fun u => ∃ ca1, cd_inj ad ca1 ∧ u = cd_pic cA ad ca1 p.2)) [.ref (ad 3 0), .int a1, .ref (ad 5 a2)].toArray ss 0 0 (hp_A (cd_pic cA ad ca0 σ0) sz)) (F0 mm 48 ls [.int t0, .int t1]) := by
            intro ca hj σ l4 t0 t1 H locs ls h hw hl
            refine lv_ior cx.1 cx.2.1 dX3_placeModule_48 ?_
            refine lv_istore_n (lv' := [(3, .int (t1 ||| t0)), (0, .ref (ad 3 0)), (1, .int l1), (2, .ref (ad 5 a2)), (4, .int l4)]) cx.1 cx.2.1 dX3_placeModule_49 rfl hl (by decide) rfl (fun ls hl => ?_)
            refine lv_iinc (v := (l4 + 1)) (lv' := [(4, .int (l4 + 1)), (3, .int (t1 ||| t0)), (0, .ref (ad 3 0)), (1, .int l1), (2, .ref (ad 5 a2))]) cx.1 cx.2.1 dX3_placeModule_50 hl (k := 4) rfl rfl (by decide) rfl (fun ls hl => ?_)
            refine lv_goto (tgt := 16) cx.1 cx.2.1 dX3_placeModule_53 (by decide) ?_
            exact ih _ hj σ l1 ((t1 ||| t0)) ((l4 + 1)) q _ _ _ h hw (lv_sub hl [2, 3, 4, 1, 0] rfl) K
          refine lv_iload cx.1 cx.2.1 dX3_placeModule_16 (lv_at hl 4 rfl) ?_
          refine lv_aload_n cx.1 cx.2.1 dX3_placeModule_18 rfl (lv_at hl 0 rfl) ?_
          refine cd_gI (o := 3) (k := 10) (f := 106) hj cx hw hic3 rfl ⟨by decide, rfl, by decide, rfl⟩ rfl (by decide) (List.mem_cons_of_mem _ cm_327) dX3_placeModule_19 ?_
          refine lv_icmp_ge (tgt := 56) cx.1 cx.2.1 dX3_placeModule_22 (by decide) (fun c22 => ?_) (fun c22 => ?_)
          · have h := md_ip c22 h
            obtain rfl := Option.some.inj h
            exact K _ hj _ _ _ hw (lv_sub hl [0, 1, 3] rfl)
          · have h := md_in c22 h
            refine lv_iload_n cx.1 cx.2.1 dX3_placeModule_25 rfl (lv_at hl 3 rfl) ?_
            refine lv_aload_n cx.1 cx.2.1 dX3_placeModule_26 rfl (lv_at hl 0 rfl) ?_
            refine cd_gA (o := 3) (k := 0) (f := 96) hj cx hw hic3 rfl ⟨by decide, rfl, by decide, rfl⟩ rfl (by decide) (List.mem_cons_of_mem _ cm_644) dX3_placeModule_27 ?_
            refine lv_iload cx.1 cx.2.1 dX3_placeModule_30 (lv_at hl 4 rfl) ?_
            obtain ⟨u2, e_u2, h⟩ := md_ob h
            have hb_u2 : u2 < 8 := (cd_ldRs e_u2).2.2
            refine cd_lR (f := 96) (o2 := 5) hj cx hw (by decide) (by decide) rfl (by decide) rfl rfl e_u2 dX3_placeModule_32 ?_
            refine lv_aload_n cx.1 cx.2.1 dX3_placeModule_33 rfl (lv_at hl 2 rfl) ?_
            obtain ⟨p3, e_p3, h⟩ := md_ob h
            refine hp_callVi (As := [.ref (ad 5 a2)]) (rest := [.int l3]) cx hw (kc_X5_covers l D cA E _ ad _ hj oq sgq sgv hE n σ u2 a2 (show _ < 196 by omega) (show _ < 196 by omega) p3 e_p3) (cwV 1 cx.2.2.2.2.2.1 (cd_giV cm_323 cm_324 cm_325 cm_306 cm_326) rfl rfl rfl hdc_X5_covers ⟨Nat.le_of_ble_eq_true rfl, Nat.le_of_ble_eq_true rfl⟩) (cd_atO hj (by decide) (show _ < 196 by omega)) rfl rfl hl.1 rfl (Nat.le_of_ble_eq_true rfl) dX3_placeModule_34 ⟨Nat.le_refl _, Nat.le_refl _⟩ (fun r u H locs hp hw => ?_)
            obtain ⟨rfl, ca, hj, rfl⟩ := hp
            refine lv_if_eq (tgt := 47) cx.1 cx.2.1 dX3_placeModule_37 (by decide) (fun c37 => ?_) (fun c37 => ?_)
            · have h := md_ip c37 h
              refine lv_iconst (v := 0) cx.1 cx.2.1 dX3_placeModule_47 (by decide) ?_
              exact J48 _ hj p3.2 l4 0 l3 _ _ _ h hw (lv_sub hl [0, 1, 2, 4] rfl)
            · have h := md_in c37 h
              refine lv_iconst (v := 1) cx.1 cx.2.1 dX3_placeModule_40 (by decide) ?_
              refine lv_iload cx.1 cx.2.1 dX3_placeModule_41 (lv_at hl 4 rfl) ?_
              refine lv_ishl cx.1 cx.2.1 dX3_placeModule_43 ?_
              refine lv_goto (tgt := 48) cx.1 cx.2.1 dX3_placeModule_44 (by decide) ?_
              exact J48 _ hj p3.2 l4 (((1 : Int32) <<< (l4 &&& 31))) l3 _ _ _ h hw (lv_sub hl [0, 1, 2, 4] rfl)
      obtain ⟨q4, e_q4, h⟩ := md_ob h
      refine L16 n _ hj σ0 a1 0 0 q4 _ _ _ e_q4 hw (lv_sub hl [2, 3, 4, 1, 0] rfl) (fun ca hj H locs ls hw hl => ?_)
      refine lv_iconst (v := 0) cx.1 cx.2.1 dX3_placeModule_56 (by decide) ?_
      refine lv_istore (lv' := [(4, .int 0), (0, .ref (ad 3 0)), (1, .int a1), (3, .int q4.2.1)]) cx.1 cx.2.1 dX3_placeModule_57 hl (by decide) rfl (fun ls hl => ?_)
      have L59 : ∀ (j : Nat) (ca : Nat → Nat) (hj : cd_inj ad ca) (σ : cd_S) (l1 : Int32) (l3 : Int32) (l4 : Int32) (q : (cd_S × Int32)) (H : Heap) (locs : List Loc) (ls : Array Slot), f_X3_placeModule_L59 n a2 l1 l3 j σ l4 = some q → hp_w D vwCl (hp_Tl cA) E (hp_A (cd_pic cA ad ca0 σ0) sz) ss H locs (cd_pic cA ad ca σ) → lv_has ls 5 [(0, .ref (ad 3 0)), (1, .int l1), (3, .int l3), (4, .int l4)] → (∀ (ca : Nat → Nat) (hj : cd_inj ad ca) (H : Heap) (locs : List Loc) (ls : Array Slot), hp_w D vwCl (hp_Tl cA) E (hp_A (cd_pic cA ad ca0 σ0) sz) ss H locs (cd_pic cA ad ca q.1) → lv_has ls 5 [(0, .ref (ad 3 0)), (1, .int l1), (3, .int l3), (4, .int q.2)] → W pp l ee ({ frames := 1, cells := 0, slots := 0, locals := 24 }) ss mm [.ref (ad 3 0), .int a1, .ref (ad 5 a2)].toArray bb mt cd H locs 0 0 (MQ bb (hp_Qv D vwCl (hp_Tl cA) sz (cd_pic cA ad ca0 σ0) (fun u => ∃ ca1, cd_inj ad ca1 ∧ u = cd_pic cA ad ca1 p.2)) [.ref (ad 3 0), .int a1, .ref (ad 5 a2)].toArray ss 0 0 (hp_A (cd_pic cA ad ca0 σ0) sz)) (F0 mm 85 ls [])) → W pp l ee ({ frames := 1, cells := 0, slots := 0, locals := 24 }) ss mm [.ref (ad 3 0), .int a1, .ref (ad 5 a2)].toArray bb mt cd H locs 0 0 (MQ bb (hp_Qv D vwCl (hp_Tl cA) sz (cd_pic cA ad ca0 σ0) (fun u => ∃ ca1, cd_inj ad ca1 ∧ u = cd_pic cA ad ca1 p.2)) [.ref (ad 3 0), .int a1, .ref (ad 5 a2)].toArray ss 0 0 (hp_A (cd_pic cA ad ca0 σ0) sz)) (F0 mm 59 ls []) := by
        intro j
        induction j with
        | zero => intro ca hj σ l1 l3 l4 q H locs ls h; exact nomatch h
        | succ j ih =>
          intro ca hj σ l1 l3 l4 q H locs ls h hw hl K
          unfold f_X3_placeModule_L59 at h
          refine lv_iload cx.1 cx.2.1 dX3_placeModule_59 (lv_at hl 3 rfl) ?_
          refine lv_aload_n cx.1 cx.2.1 dX3_placeModule_61 rfl (lv_at hl 0 rfl) ?_
          refine cd_gI (o := 3) (k := 12) (f := 108) hj cx hw hic3 rfl ⟨by decide, rfl, by decide, rfl⟩ rfl (by decide) (List.mem_cons_of_mem _ cm_334) dX3_placeModule_62 ?_
          refine lv_icmp_ge (tgt := 85) cx.1 cx.2.1 dX3_placeModule_65 (by decide) (fun c65 => ?_) (fun c65 => ?_)
          · have h := md_ip c65 h
            obtain rfl := Option.some.inj h
            exact K _ hj _ _ _ hw (lv_sub hl [0, 1, 2, 3] rfl)
          · have h := md_in c65 h
            refine lv_aload_n cx.1 cx.2.1 dX3_placeModule_68 rfl (lv_at hl 0 rfl) ?_
            refine cd_gA (o := 3) (k := 4) (f := 100) hj cx hw hic3 rfl ⟨by decide, rfl, by decide, rfl⟩ rfl (by decide) (List.mem_cons_of_mem _ cm_335) dX3_placeModule_69 ?_
            refine lv_iload cx.1 cx.2.1 dX3_placeModule_72 (lv_at hl 3 rfl) ?_
            obtain ⟨v5, e_v5, h⟩ := md_ob h
            refine cd_lI (f := 100) hj cx hw (by decide) (by decide) rfl e_v5 dX3_placeModule_74 ?_
            refine lv_iload_n cx.1 cx.2.1 dX3_placeModule_75 rfl (lv_at hl 2 rfl) ?_
            refine lv_icmp_eq (tgt := 85) cx.1 cx.2.1 dX3_placeModule_76 (by decide) (fun c76 => ?_) (fun c76 => ?_)
            · have h := md_ip c76 h
              obtain rfl := Option.some.inj h
              exact K _ hj _ _ _ hw (lv_sub hl [0, 1, 2, 3] rfl)
            · have h := md_in c76 h
              refine lv_iinc (v := (l4 + 1)) (lv' := [(4, .int (l4 + 1)), (0, .ref (ad 3 0)), (1, .int l1), (3, .int l3)]) cx.1 cx.2.1 dX3_placeModule_79 hl (k := 3) rfl rfl (by decide) rfl (fun ls hl => ?_)
              refine lv_goto (tgt := 59) cx.1 cx.2.1 dX3_placeModule_82 (by decide) ?_
              exact ih _ hj σ l1 l3 ((l4 + 1)) q _ _ _ h hw (lv_sub hl [1, 2, 3, 0] rfl) K
      obtain ⟨q6, e_q6, h⟩ := md_ob h
      refine L59 n _ hj q4.1 a1 (q4.2.1) 0 q6 _ _ _ e_q6 hw (lv_sub hl [1, 2, 3, 0] rfl) (fun ca hj H locs ls hw hl => ?_)
      refine lv_iload cx.1 cx.2.1 dX3_placeModule_85 (lv_at hl 3 rfl) ?_
      refine lv_aload_n cx.1 cx.2.1 dX3_placeModule_87 rfl (lv_at hl 0 rfl) ?_
      refine cd_gI (o := 3) (k := 12) (f := 108) hj cx hw hic3 rfl ⟨by decide, rfl, by decide, rfl⟩ rfl (by decide) (List.mem_cons_of_mem _ cm_334) dX3_placeModule_88 ?_
      refine lv_icmp_ne (tgt := 119) cx.1 cx.2.1 dX3_placeModule_91 (by decide) (fun c91 => ?_) (fun c91 => ?_)
      · have h := md_in c91 h
        exact J119 _ hj q6.1 a1 (q6.2) _ _ _ h hw (lv_sub hl [0, 1, 3] rfl)
      · have h := md_ip c91 h
        refine lv_iload cx.1 cx.2.1 dX3_placeModule_94 (lv_at hl 3 rfl) ?_
        refine lv_bipush (v := 8) cx.1 cx.2.1 dX3_placeModule_96 (by decide) ?_
        refine lv_icmp_ge (tgt := 119) cx.1 cx.2.1 dX3_placeModule_98 (by decide) (fun c98 => ?_) (fun c98 => ?_)
        · have h := md_ip c98 h
          exact J119 _ hj q6.1 a1 (q6.2) _ _ _ h hw (lv_sub hl [0, 1, 3] rfl)
        · have h := md_in c98 h
          refine lv_aload_n cx.1 cx.2.1 dX3_placeModule_101 rfl (lv_at hl 0 rfl) ?_
          refine cd_gA (o := 3) (k := 4) (f := 100) hj cx hw hic3 rfl ⟨by decide, rfl, by decide, rfl⟩ rfl (by decide) (List.mem_cons_of_mem _ cm_335) dX3_placeModule_102 ?_
          refine lv_iload cx.1 cx.2.1 dX3_placeModule_105 (lv_at hl 3 rfl) ?_
          refine lv_iload_n cx.1 cx.2.1 dX3_placeModule_107 rfl (lv_at hl 2 rfl) ?_
          obtain ⟨σ7, e_σ7, h⟩ := md_ob h
          refine cd_sI (f := 100) hj cx hw (by decide) (by decide) rfl e_σ7 dX3_placeModule_108 (fun H locs hw => ?_)
          refine lv_aload_n cx.1 cx.2.1 dX3_placeModule_109 rfl (lv_at hl 0 rfl) ?_
          refine lv_dup cx.1 cx.2.1 dX3_placeModule_110 rfl ?_
          refine cd_gI (o := 3) (k := 12) (f := 108) hj cx hw hic3 rfl ⟨by decide, rfl, by decide, rfl⟩ rfl (by decide) (List.mem_cons_of_mem _ cm_334) dX3_placeModule_111 ?_
          refine lv_iconst (v := 1) cx.1 cx.2.1 dX3_placeModule_114 (by decide) ?_
          refine lv_iadd cx.1 cx.2.1 dX3_placeModule_115 ?_
          obtain ⟨σ8, e_σ8, h⟩ := md_ob h
          refine cd_pI (o := 3) (k := 12) (f := 108) hj cx hw hic3 rfl ⟨by decide, rfl, by decide, rfl⟩ tyX3_ok nmX3 rfl (by decide) rfl (List.mem_cons_of_mem _ cm_334) rfl e_σ8 dX3_placeModule_116 (fun H locs hw => ?_)
          exact J119 _ hj σ8 a1 (q6.2) _ _ _ h hw (lv_sub hl [0, 1, 3] rfl)
    · have h := md_in c7 h
      exact hp_vret cx hw ((cd_ret hj h).2) dX3_placeModule_10
set_option maxHeartbeats 4000000 in
set_option maxRecDepth 100000 in
theorem kc_X10_advance (l : Launch) (D : va_G) (cA : Nat → ClassId) (E : hp_N) (sz : Nat) (ad : Nat → Nat → Nat) (ca0 : Nat → Nat) (hj : cd_inj ad ca0) (oq sgq sgv : Nat) (hE : cd_E E oq sgq sgv) (n : Nat) (σ0 : cd_S) (p : (Int32 × cd_S)) (h : f_X10_advance n σ0 = some p) : Met l yX10_advance (Cond.code yX10_advance cX10_advance 1 none :: v_CLS) ({ frames := 1, cells := 0, slots := 0, locals := 21 }) (hp_Pc D vwCl (hp_Tl cA) E sz (cd_pic cA ad ca0 σ0) [.ref (ad 10 0)]) (hp_Qv D vwCl (hp_Tl cA) sz (cd_pic cA ad ca0 σ0) (fun u => ∃ ca1, cd_inj ad ca1 ∧ u = cd_pic cA ad ca1 p.2)) 0 0 (hp_A (cd_pic cA ad ca0 σ0) sz) := by
  refine hp_ofW (cc := cX10_advance) (maxL := 1) (ret := none) (by decide) rfl (Nat.le_of_ble_eq_true rfl) ?_
  intro pp ee ss mm bb mt cd ls cx hsz hw hl
  have hl : lv_has ls 1 [(0, .ref (ad 10 0))] := hl
  refine lv_aload_n cx.1 cx.2.1 dX10_advance_0 rfl (lv_at hl 0 rfl) ?_
  refine lv_aload_n cx.1 cx.2.1 dX10_advance_1 rfl (lv_at hl 0 rfl) ?_
  refine cd_gO (o2 := 6) (e2 := 0) (o := 10) (k := 1) (f := 321) hj cx hw hic10 rfl ⟨by decide, rfl, by decide, rfl⟩ rfl (by decide) ⟨rfl, rfl⟩ (List.mem_cons_of_mem _ cm_649) dX10_advance_2 ?_
  refine lv_aload_n cx.1 cx.2.1 dX10_advance_5 rfl (lv_at hl 0 rfl) ?_
  refine cd_gI (o := 10) (k := 7) (f := 327) hj cx hw hic10 rfl ⟨by decide, rfl, by decide, rfl⟩ rfl (by decide) (List.mem_cons_of_mem _ cm_650) dX10_advance_6 ?_
  refine lv_iconst (v := 3) cx.1 cx.2.1 dX10_advance_9 (by decide) ?_
  refine lv_imul cx.1 cx.2.1 dX10_advance_10 ?_
  obtain ⟨p1, e_p1, h⟩ := md_ob h
  refine hp_callVi (As := [.int ((cI σ0 327 0) * 3)]) (rest := [.ref (ad 10 0)]) cx hw (kc_X6_at l D cA E _ ad _ hj oq sgq sgv hE n σ0 0 (((cI σ0 327 0) * 3)) (by decide) p1 e_p1) (cwV 1 cx.2.2.2.2.2.1 (cd_giV cm_651 cm_17 cm_18 cm_5 cm_19) rfl rfl rfl hdc_X6_at ⟨Nat.le_of_ble_eq_true rfl, Nat.le_of_ble_eq_true rfl⟩) (cd_atO hj (by decide) (by decide)) rfl rfl hl.1 rfl (Nat.le_of_ble_eq_true rfl) dX10_advance_11 ⟨Nat.le_refl _, Nat.le_refl _⟩ (fun r u H locs hp hw => ?_)
  obtain ⟨rfl, ca, hj, rfl⟩ := hp
  obtain ⟨σ2, e_σ2, h⟩ := md_ob h
  refine cd_pI (o := 10) (k := 8) (f := 328) hj cx hw hic10 rfl ⟨by decide, rfl, by decide, rfl⟩ tyX10_ok nmX10 rfl (by decide) rfl (List.mem_cons_of_mem _ cm_652) rfl e_σ2 dX10_advance_14 (fun H locs hw => ?_)
  refine lv_aload_n cx.1 cx.2.1 dX10_advance_17 rfl (lv_at hl 0 rfl) ?_
  refine lv_aload_n cx.1 cx.2.1 dX10_advance_18 rfl (lv_at hl 0 rfl) ?_
  refine cd_gO (o2 := 6) (e2 := 0) (o := 10) (k := 1) (f := 321) hj cx hw hic10 rfl ⟨by decide, rfl, by decide, rfl⟩ rfl (by decide) ⟨rfl, rfl⟩ (List.mem_cons_of_mem _ cm_649) dX10_advance_19 ?_
  refine lv_aload_n cx.1 cx.2.1 dX10_advance_22 rfl (lv_at hl 0 rfl) ?_
  refine cd_gI (o := 10) (k := 7) (f := 327) hj cx hw hic10 rfl ⟨by decide, rfl, by decide, rfl⟩ rfl (by decide) (List.mem_cons_of_mem _ cm_650) dX10_advance_23 ?_
  refine lv_iconst (v := 3) cx.1 cx.2.1 dX10_advance_26 (by decide) ?_
  refine lv_imul cx.1 cx.2.1 dX10_advance_27 ?_
  refine lv_iconst (v := 1) cx.1 cx.2.1 dX10_advance_28 (by decide) ?_
  refine lv_iadd cx.1 cx.2.1 dX10_advance_29 ?_
  obtain ⟨p3, e_p3, h⟩ := md_ob h
  refine hp_callVi (As := [.int (((cI σ2 327 0) * 3) + 1)]) (rest := [.ref (ad 10 0)]) cx hw (kc_X6_at l D cA E _ ad _ hj oq sgq sgv hE n σ2 0 ((((cI σ2 327 0) * 3) + 1)) (by decide) p3 e_p3) (cwV 1 cx.2.2.2.2.2.1 (cd_giV cm_651 cm_17 cm_18 cm_5 cm_19) rfl rfl rfl hdc_X6_at ⟨Nat.le_of_ble_eq_true rfl, Nat.le_of_ble_eq_true rfl⟩) (cd_atO hj (by decide) (by decide)) rfl rfl hl.1 rfl (Nat.le_of_ble_eq_true rfl) dX10_advance_30 ⟨Nat.le_refl _, Nat.le_refl _⟩ (fun r u H locs hp hw => ?_)
  obtain ⟨rfl, ca, hj, rfl⟩ := hp
  obtain ⟨σ4, e_σ4, h⟩ := md_ob h
  refine cd_pI (o := 10) (k := 9) (f := 329) hj cx hw hic10 rfl ⟨by decide, rfl, by decide, rfl⟩ tyX10_ok nmX10 rfl (by decide) rfl (List.mem_cons_of_mem _ cm_653) rfl e_σ4 dX10_advance_33 (fun H locs hw => ?_)
  refine lv_aload_n cx.1 cx.2.1 dX10_advance_36 rfl (lv_at hl 0 rfl) ?_
  refine lv_aload_n cx.1 cx.2.1 dX10_advance_37 rfl (lv_at hl 0 rfl) ?_
  refine cd_gO (o2 := 6) (e2 := 0) (o := 10) (k := 1) (f := 321) hj cx hw hic10 rfl ⟨by decide, rfl, by decide, rfl⟩ rfl (by decide) ⟨rfl, rfl⟩ (List.mem_cons_of_mem _ cm_649) dX10_advance_38 ?_
  refine lv_aload_n cx.1 cx.2.1 dX10_advance_41 rfl (lv_at hl 0 rfl) ?_
  refine cd_gI (o := 10) (k := 7) (f := 327) hj cx hw hic10 rfl ⟨by decide, rfl, by decide, rfl⟩ rfl (by decide) (List.mem_cons_of_mem _ cm_650) dX10_advance_42 ?_
  refine lv_iconst (v := 3) cx.1 cx.2.1 dX10_advance_45 (by decide) ?_
  refine lv_imul cx.1 cx.2.1 dX10_advance_46 ?_
  refine lv_iconst (v := 2) cx.1 cx.2.1 dX10_advance_47 (by decide) ?_
  refine lv_iadd cx.1 cx.2.1 dX10_advance_48 ?_
  obtain ⟨p5, e_p5, h⟩ := md_ob h
  refine hp_callVl (As := [.int (((cI σ4 327 0) * 3) + 2)]) (rest := [.ref (ad 10 0)]) cx hw (kc_X6_get l D cA E _ ad _ hj oq sgq sgv hE n σ4 0 ((((cI σ4 327 0) * 3) + 2)) (by decide) p5 e_p5) (cwV 1 cx.2.2.2.2.2.1 (cd_giV cm_654 cm_240 cm_241 cm_5 cm_242) rfl rfl rfl hdc_X6_get ⟨Nat.le_of_ble_eq_true rfl, Nat.le_of_ble_eq_true rfl⟩) (cd_atO hj (by decide) (by decide)) rfl rfl hl.1 rfl (Nat.le_of_ble_eq_true rfl) dX10_advance_49 ⟨Nat.le_refl _, Nat.le_refl _⟩ (fun r u H locs hp hw => ?_)
  obtain ⟨rfl, ca, hj, rfl⟩ := hp
  obtain ⟨σ6, e_σ6, h⟩ := md_ob h
  refine cd_pJ (o := 10) (k := 10) (f := 330) hj cx hw hic10 rfl ⟨by decide, rfl, by decide, rfl⟩ tyX10_ok nmX10 rfl (by decide) rfl (List.mem_cons_of_mem _ cm_655) rfl e_σ6 dX10_advance_52 (fun H locs hw => ?_)
  refine lv_aload_n cx.1 cx.2.1 dX10_advance_55 rfl (lv_at hl 0 rfl) ?_
  refine lv_dup cx.1 cx.2.1 dX10_advance_56 rfl ?_
  refine cd_gI (o := 10) (k := 7) (f := 327) hj cx hw hic10 rfl ⟨by decide, rfl, by decide, rfl⟩ rfl (by decide) (List.mem_cons_of_mem _ cm_650) dX10_advance_57 ?_
  refine lv_iconst (v := 1) cx.1 cx.2.1 dX10_advance_60 (by decide) ?_
  refine lv_iadd cx.1 cx.2.1 dX10_advance_61 ?_
  obtain ⟨σ7, e_σ7, h⟩ := md_ob h
  refine cd_pI (o := 10) (k := 7) (f := 327) hj cx hw hic10 rfl ⟨by decide, rfl, by decide, rfl⟩ tyX10_ok nmX10 rfl (by decide) rfl (List.mem_cons_of_mem _ cm_650) rfl e_σ7 dX10_advance_62 (fun H locs hw => ?_)
  exact hp_vret cx hw ((cd_ret hj h).2) dX10_advance_65
set_option maxHeartbeats 4000000 in
set_option maxRecDepth 100000 in
theorem kc_X4_refuse (l : Launch) (D : va_G) (cA : Nat → ClassId) (E : hp_N) (sz : Nat) (ad : Nat → Nat → Nat) (ca0 : Nat → Nat) (hj : cd_inj ad ca0) (oq sgq sgv : Nat) (hE : cd_E E oq sgq sgv) (n : Nat) (σ0 : cd_S) (b0 : cd_B) (a1 : Int32) (a2 : Int32) (p : (Int32 × cd_S × cd_B)) (h : f_X4_refuse n σ0 b0 a1 a2 = some (Sum.inl p)) : (p.2.2.1 ≤ b0.1 ∧ p.2.2.2 ≤ b0.2) ∧ Met l yX4_refuse (Cond.code yX4_refuse cX4_refuse 3 none :: v_CLS) ({ frames := 12, cells := b0.1 - p.2.2.1, slots := b0.2 - p.2.2.2, locals := 200 }) (hp_Pc D vwCl (hp_Tl cA) E sz (cd_pic cA ad ca0 σ0) [.ref (ad 4 0), .int a1, .int a2]) (hp_Qv D vwCl (hp_Tl cA) sz (cd_pic cA ad ca0 σ0) (fun u => ∃ ca1, cd_inj ad ca1 ∧ u = cd_pic cA ad ca1 p.2.1)) (b0.1 - p.2.2.1) (b0.2 - p.2.2.2) (hp_A (cd_pic cA ad ca0 σ0) sz) := by
  obtain ⟨hm0, hn0, h⟩ := cd_cks h
  have hM0 : p.2.2.1 ≤ b0.1 ∧ p.2.2.2 ≤ b0.2 := ⟨hm0, hn0⟩
  refine ⟨hM0, ?_⟩
  refine hp_ofW (cc := cX4_refuse) (maxL := 3) (ret := none) (by decide) rfl (Nat.le_of_ble_eq_true rfl) ?_
  intro pp ee ss mm bb mt cd ls cx hsz hw hl
  have hl : lv_has ls 3 [(0, .ref (ad 4 0)), (1, .int a1), (2, .int a2)] := hl
  refine W.widen (k := b0.1 - b0.1) (n := b0.2 - b0.2) (Nat.zero_le _) (Nat.zero_le _) ?_
  refine lv_aload_n cx.1 cx.2.1 dX4_refuse_0 rfl (lv_at hl 0 rfl) ?_
  refine lv_iload_n cx.1 cx.2.1 dX4_refuse_1 rfl (lv_at hl 1 rfl) ?_
  obtain ⟨σ1, e_σ1, h⟩ := md_ob h
  refine cd_pI (o := 4) (k := 11) (f := 139) hj cx hw hic4 rfl ⟨by decide, rfl, by decide, rfl⟩ tyX4_ok nmX4 rfl (by decide) rfl (List.mem_cons_of_mem _ cm_656) rfl e_σ1 dX4_refuse_2 (fun H locs hw => ?_)
  refine lv_aload_n cx.1 cx.2.1 dX4_refuse_5 rfl (lv_at hl 0 rfl) ?_
  refine lv_iload_n cx.1 cx.2.1 dX4_refuse_6 rfl (lv_at hl 2 rfl) ?_
  obtain ⟨σ2, e_σ2, h⟩ := md_ob h
  refine cd_pI (o := 4) (k := 12) (f := 140) hj cx hw hic4 rfl ⟨by decide, rfl, by decide, rfl⟩ tyX4_ok nmX4 rfl (by decide) rfl (List.mem_cons_of_mem _ cm_657) rfl e_σ2 dX4_refuse_7 (fun H locs hw => ?_)
  obtain ⟨b3, e_b3, h⟩ := md_ob h
  exact nomatch Option.some.inj h
set_option maxHeartbeats 4000000 in
set_option maxRecDepth 100000 in
theorem kc_X4_need (l : Launch) (D : va_G) (cA : Nat → ClassId) (E : hp_N) (sz : Nat) (ad : Nat → Nat → Nat) (ca0 : Nat → Nat) (hj : cd_inj ad ca0) (oq sgq sgv : Nat) (hE : cd_E E oq sgq sgv) (n : Nat) (σ0 : cd_S) (b0 : cd_B) (a1 : Int32) (p : (Int32 × cd_S × cd_B)) (h : f_X4_need n σ0 b0 a1 = some (Sum.inl p)) : (p.2.2.1 ≤ b0.1 ∧ p.2.2.2 ≤ b0.2) ∧ Met l yX4_need (Cond.code yX4_need cX4_need 2 none :: v_CLS) ({ frames := 13, cells := b0.1 - p.2.2.1, slots := b0.2 - p.2.2.2, locals := 222 }) (hp_Pc D vwCl (hp_Tl cA) E sz (cd_pic cA ad ca0 σ0) [.ref (ad 4 0), .int a1]) (hp_Qv D vwCl (hp_Tl cA) sz (cd_pic cA ad ca0 σ0) (fun u => ∃ ca1, cd_inj ad ca1 ∧ u = cd_pic cA ad ca1 p.2.1)) (b0.1 - p.2.2.1) (b0.2 - p.2.2.2) (hp_A (cd_pic cA ad ca0 σ0) sz) := by
  obtain ⟨hm0, hn0, h⟩ := cd_cks h
  have hM0 : p.2.2.1 ≤ b0.1 ∧ p.2.2.2 ≤ b0.2 := ⟨hm0, hn0⟩
  refine ⟨hM0, ?_⟩
  refine hp_ofW (cc := cX4_need) (maxL := 2) (ret := none) (by decide) rfl (Nat.le_of_ble_eq_true rfl) ?_
  intro pp ee ss mm bb mt cd ls cx hsz hw hl
  have hl : lv_has ls 2 [(0, .ref (ad 4 0)), (1, .int a1)] := hl
  refine W.widen (k := b0.1 - b0.1) (n := b0.2 - b0.2) (Nat.zero_le _) (Nat.zero_le _) ?_
  refine lv_iload_n cx.1 cx.2.1 dX4_need_0 rfl (lv_at hl 1 rfl) ?_
  refine lv_if_ne (tgt := 16) cx.1 cx.2.1 dX4_need_1 (by decide) (fun c1 => ?_) (fun c1 => ?_)
  · have h := md_in c1 h
    exact hp_vret cx hw ((cd_retb hj (congrArg some (Sum.inl.inj (Option.some.inj h)))).2) dX4_need_16 (cd_le1 (congrArg some (Sum.inl.inj (Option.some.inj h)))) (cd_le2 (congrArg some (Sum.inl.inj (Option.some.inj h))))
  · have h := md_ip c1 h
    refine lv_aload_n cx.1 cx.2.1 dX4_need_4 rfl (lv_at hl 0 rfl) ?_
    refine lv_iconst (v := 1) cx.1 cx.2.1 dX4_need_5 (by decide) ?_
    refine lv_aload_n cx.1 cx.2.1 dX4_need_6 rfl (lv_at hl 0 rfl) ?_
    refine cd_gO (o2 := 10) (e2 := 0) (o := 4) (k := 0) (f := 128) hj cx hw hic4 rfl ⟨by decide, rfl, by decide, rfl⟩ rfl (by decide) ⟨rfl, rfl⟩ (List.mem_cons_of_mem _ cm_658) dX4_need_7 ?_
    refine cd_gI (o := 10) (k := 9) (f := 329) hj cx hw hic10 rfl ⟨by decide, rfl, by decide, rfl⟩ rfl (by decide) (List.mem_cons_of_mem _ cm_659) dX4_need_10 ?_
    obtain ⟨q1, e_q1, h⟩ := md_ob h
    obtain ⟨hm2, hn2, h⟩ := cd_cks h
    have hM2 : p.2.2.1 ≤ (Sum.elim (fun (p : Int32 × cd_S × cd_B) => p.2.2) (fun (t : cd_S × cd_B) => t.2) q1).1 ∧ p.2.2.2 ≤ (Sum.elim (fun (p : Int32 × cd_S × cd_B) => p.2.2) (fun (t : cd_S × cd_B) => t.2) q1).2 := ⟨hm2, hn2⟩
    cases q1 with
    | inr t1 =>
      exact nomatch Option.some.inj h
    | inl p1 =>
      have hle1 := (kc_X4_refuse l D cA E sz ad _ hj oq sgq sgv hE n σ0 b0 (1 : Int32) ((cI σ0 329 0)) p1 e_q1).1
      have hM10002 : p.2.2.1 ≤ p1.2.2.1 ∧ p.2.2.2 ≤ p1.2.2.2 := hM2
      have h := cd_inl h
      refine hp_callVv (As := [.int 1, .int (cI σ0 329 0)]) (rest := []) cx hw ((kc_X4_refuse l D cA E _ ad _ hj oq sgq sgv hE n σ0 b0 (1 : Int32) ((cI σ0 329 0)) p1 e_q1).2) (cwV 2 cx.2.2.2.2.2.1 (cd_giV cm_660 cm_661 cm_662 cm_663 cm_664) rfl rfl rfl hdc_X4_refuse ⟨Nat.le_of_ble_eq_true rfl, Nat.le_of_ble_eq_true rfl⟩) (cd_atO hj (by decide) (by decide)) rfl rfl hl.1 rfl (Nat.le_of_ble_eq_true rfl) dX4_need_13 ⟨by (try dsimp only); omega, by (try dsimp only); omega⟩ (fun u H locs hp hw => ?_)
      obtain ⟨ca, hj, rfl⟩ := hp
      refine W.widen (k := b0.1 - p1.2.2.1) (n := b0.2 - p1.2.2.2) (by omega) (by omega) ?_
      exact hp_vret cx hw ((cd_retb hj (congrArg some (Sum.inl.inj (Option.some.inj h)))).2) dX4_need_16 (cd_le1 (congrArg some (Sum.inl.inj (Option.some.inj h)))) (cd_le2 (congrArg some (Sum.inl.inj (Option.some.inj h))))
set_option maxHeartbeats 4000000 in
set_option maxRecDepth 100000 in
theorem kc_X4_pass (l : Launch) (D : va_G) (cA : Nat → ClassId) (E : hp_N) (sz : Nat) (ad : Nat → Nat → Nat) (ca0 : Nat → Nat) (hj : cd_inj ad ca0) (oq sgq sgv : Nat) (hE : cd_E E oq sgq sgv) (n : Nat) (σ0 : cd_S) (b0 : cd_B) (a1 : Int32) (p : (Int32 × cd_S × cd_B)) (h : f_X4_pass n σ0 b0 a1 = some (Sum.inl p)) : (p.2.2.1 ≤ b0.1 ∧ p.2.2.2 ≤ b0.2) ∧ Met l yX4_pass (Cond.code yX4_pass cX4_pass 2 none :: v_CLS) ({ frames := 14, cells := b0.1 - p.2.2.1, slots := b0.2 - p.2.2.2, locals := 243 }) (hp_Pc D vwCl (hp_Tl cA) E sz (cd_pic cA ad ca0 σ0) [.ref (ad 4 0), .int a1]) (hp_Qv D vwCl (hp_Tl cA) sz (cd_pic cA ad ca0 σ0) (fun u => ∃ ca1, cd_inj ad ca1 ∧ u = cd_pic cA ad ca1 p.2.1)) (b0.1 - p.2.2.1) (b0.2 - p.2.2.2) (hp_A (cd_pic cA ad ca0 σ0) sz) := by
  obtain ⟨hm0, hn0, h⟩ := cd_cks h
  have hM0 : p.2.2.1 ≤ b0.1 ∧ p.2.2.2 ≤ b0.2 := ⟨hm0, hn0⟩
  refine ⟨hM0, ?_⟩
  refine hp_ofW (cc := cX4_pass) (maxL := 2) (ret := none) (by decide) rfl (Nat.le_of_ble_eq_true rfl) ?_
  intro pp ee ss mm bb mt cd ls cx hsz hw hl
  have hl : lv_has ls 2 [(0, .ref (ad 4 0)), (1, .int a1)] := hl
  refine W.widen (k := b0.1 - b0.1) (n := b0.2 - b0.2) (Nat.zero_le _) (Nat.zero_le _) ?_
  have J17 : ∀ (ca : Nat → Nat) (hj : cd_inj ad ca) (σ : cd_S) (b : cd_B) (t0 : Int32) (H : Heap) (locs : List Loc) (ls : Array Slot), b.1 ≤ b0.1 → b.2 ≤ b0.2 → p.2.2.1 ≤ b.1 → p.2.2.2 ≤ b.2 → f_X4_pass_J17 n σ b t0 = some (Sum.inl p) → hp_w D vwCl (hp_Tl cA) E (hp_A (cd_pic cA ad ca0 σ0) sz) ss H locs (cd_pic cA ad ca σ) → lv_has ls 2 [(0, .ref (ad 4 0))] → W pp l ee ({ frames := 14, cells := b0.1 - p.2.2.1, slots := b0.2 - p.2.2.2, locals := 243 }) ss mm [.ref (ad 4 0), .int a1].toArray bb mt cd H locs (b0.1 - b.1) (b0.2 - b.2) (MQ bb (hp_Qv D vwCl (hp_Tl cA) sz (cd_pic cA ad ca0 σ0) (fun u => ∃ ca1, cd_inj ad ca1 ∧ u = cd_pic cA ad ca1 p.2.1)) [.ref (ad 4 0), .int a1].toArray ss (b0.1 - p.2.2.1) (b0.2 - p.2.2.2) (hp_A (cd_pic cA ad ca0 σ0) sz)) (F0 mm 17 ls [.int t0, .ref (ad 4 0)]) := by
    intro ca hj σ b t0 H locs ls hb1 hb2 hf1 hf2 h hw hl
    obtain ⟨q1, e_q1, h⟩ := md_ob h
    obtain ⟨hm2, hn2, h⟩ := cd_cks h
    have hM2 : p.2.2.1 ≤ (Sum.elim (fun (p : Int32 × cd_S × cd_B) => p.2.2) (fun (t : cd_S × cd_B) => t.2) q1).1 ∧ p.2.2.2 ≤ (Sum.elim (fun (p : Int32 × cd_S × cd_B) => p.2.2) (fun (t : cd_S × cd_B) => t.2) q1).2 := ⟨hm2, hn2⟩
    cases q1 with
    | inr t1 =>
      exact nomatch Option.some.inj h
    | inl p1 =>
      have hle1 := (kc_X4_need l D cA E sz ad _ hj oq sgq sgv hE n σ b t0 p1 e_q1).1
      have hM10002 : p.2.2.1 ≤ p1.2.2.1 ∧ p.2.2.2 ≤ p1.2.2.2 := hM2
      have h := cd_inl h
      refine hp_callVv (As := [.int t0]) (rest := []) cx hw ((kc_X4_need l D cA E _ ad _ hj oq sgq sgv hE n σ b t0 p1 e_q1).2) (cwV 1 cx.2.2.2.2.2.1 (cd_giV cm_666 cm_667 cm_668 cm_663 cm_669) rfl rfl rfl hdc_X4_need ⟨Nat.le_of_ble_eq_true rfl, Nat.le_of_ble_eq_true rfl⟩) (cd_atO hj (by decide) (by decide)) rfl rfl hl.1 rfl (Nat.le_of_ble_eq_true rfl) dX4_pass_17 ⟨by (try dsimp only); omega, by (try dsimp only); omega⟩ (fun u H locs hp hw => ?_)
      obtain ⟨ca, hj, rfl⟩ := hp
      refine W.widen (k := b0.1 - p1.2.2.1) (n := b0.2 - p1.2.2.2) (by omega) (by omega) ?_
      refine lv_aload_n cx.1 cx.2.1 dX4_pass_20 rfl (lv_at hl 0 rfl) ?_
      refine cd_gO (o2 := 10) (e2 := 0) (o := 4) (k := 0) (f := 128) hj cx hw hic4 rfl ⟨by decide, rfl, by decide, rfl⟩ rfl (by decide) ⟨rfl, rfl⟩ (List.mem_cons_of_mem _ cm_658) dX4_pass_21 ?_
      obtain ⟨p3, e_p3, h⟩ := md_ob h
      refine hp_callVv (As := []) (rest := []) cx hw (kc_X10_advance l D cA E _ ad _ hj oq sgq sgv hE n p1.2.1  p3 e_p3) (cwV 0 cx.2.2.2.2.2.1 (cd_giV cm_670 cm_671 cm_672 cm_301 cm_673) rfl rfl rfl hdc_X10_advance ⟨Nat.le_of_ble_eq_true rfl, Nat.le_of_ble_eq_true rfl⟩) (cd_atO hj (by decide) (by decide)) rfl rfl hl.1 rfl (Nat.le_of_ble_eq_true rfl) dX4_pass_24 ⟨by (try dsimp only); omega, by (try dsimp only); omega⟩ (fun u H locs hp hw => ?_)
      obtain ⟨ca, hj, rfl⟩ := hp
      exact hp_vret cx hw ((cd_retb hj (congrArg some (Sum.inl.inj (Option.some.inj h)))).2) dX4_pass_27 (cd_le1 (congrArg some (Sum.inl.inj (Option.some.inj h)))) (cd_le2 (congrArg some (Sum.inl.inj (Option.some.inj h))))
  refine lv_aload_n cx.1 cx.2.1 dX4_pass_0 rfl (lv_at hl 0 rfl) ?_
  refine lv_aload_n cx.1 cx.2.1 dX4_pass_1 rfl (lv_at hl 0 rfl) ?_
  refine cd_gO (o2 := 10) (e2 := 0) (o := 4) (k := 0) (f := 128) hj cx hw hic4 rfl ⟨by decide, rfl, by decide, rfl⟩ rfl (by decide) ⟨rfl, rfl⟩ (List.mem_cons_of_mem _ cm_658) dX4_pass_2 ?_
  refine cd_gI (o := 10) (k := 8) (f := 328) hj cx hw hic10 rfl ⟨by decide, rfl, by decide, rfl⟩ rfl (by decide) (List.mem_cons_of_mem _ cm_665) dX4_pass_5 ?_
  refine lv_iload_n cx.1 cx.2.1 dX4_pass_8 rfl (lv_at hl 1 rfl) ?_
  refine lv_icmp_ne (tgt := 16) cx.1 cx.2.1 dX4_pass_9 (by decide) (fun c9 => ?_) (fun c9 => ?_)
  · have h := md_in c9 h
    refine lv_iconst (v := 0) cx.1 cx.2.1 dX4_pass_16 (by decide) ?_
    exact J17 _ hj σ0 b0 0 _ _ _ (by omega) (by omega) (by omega) (by omega) h hw (lv_sub hl [0] rfl)
  · have h := md_ip c9 h
    refine lv_iconst (v := 1) cx.1 cx.2.1 dX4_pass_12 (by decide) ?_
    refine lv_goto (tgt := 17) cx.1 cx.2.1 dX4_pass_13 (by decide) ?_
    exact J17 _ hj σ0 b0 1 _ _ _ (by omega) (by omega) (by omega) (by omega) h hw (lv_sub hl [0] rfl)
set_option maxHeartbeats 4000000 in
set_option maxRecDepth 100000 in
theorem kc_X4_needName (l : Launch) (D : va_G) (cA : Nat → ClassId) (E : hp_N) (sz : Nat) (ad : Nat → Nat → Nat) (ca0 : Nat → Nat) (hj : cd_inj ad ca0) (oq sgq sgv : Nat) (hE : cd_E E oq sgq sgv) (n : Nat) (σ0 : cd_S) (b0 : cd_B) (p : (Int32 × cd_S × cd_B)) (h : f_X4_needName n σ0 b0 = some (Sum.inl p)) : (p.2.2.1 ≤ b0.1 ∧ p.2.2.2 ≤ b0.2) ∧ Met l yX4_needName (Cond.code yX4_needName cX4_needName 1 none :: v_CLS) ({ frames := 13, cells := b0.1 - p.2.2.1, slots := b0.2 - p.2.2.2, locals := 222 }) (hp_Pc D vwCl (hp_Tl cA) E sz (cd_pic cA ad ca0 σ0) [.ref (ad 4 0)]) (hp_Qv D vwCl (hp_Tl cA) sz (cd_pic cA ad ca0 σ0) (fun u => ∃ ca1, cd_inj ad ca1 ∧ u = cd_pic cA ad ca1 p.2.1)) (b0.1 - p.2.2.1) (b0.2 - p.2.2.2) (hp_A (cd_pic cA ad ca0 σ0) sz) := by
  obtain ⟨hm0, hn0, h⟩ := cd_cks h
  have hM0 : p.2.2.1 ≤ b0.1 ∧ p.2.2.2 ≤ b0.2 := ⟨hm0, hn0⟩
  refine ⟨hM0, ?_⟩
  refine hp_ofW (cc := cX4_needName) (maxL := 1) (ret := none) (by decide) rfl (Nat.le_of_ble_eq_true rfl) ?_
  intro pp ee ss mm bb mt cd ls cx hsz hw hl
  have hl : lv_has ls 1 [(0, .ref (ad 4 0))] := hl
  refine W.widen (k := b0.1 - b0.1) (n := b0.2 - b0.2) (Nat.zero_le _) (Nat.zero_le _) ?_
  refine lv_aload_n cx.1 cx.2.1 dX4_needName_0 rfl (lv_at hl 0 rfl) ?_
  refine cd_gO (o2 := 10) (e2 := 0) (o := 4) (k := 0) (f := 128) hj cx hw hic4 rfl ⟨by decide, rfl, by decide, rfl⟩ rfl (by decide) ⟨rfl, rfl⟩ (List.mem_cons_of_mem _ cm_658) dX4_needName_1 ?_
  refine cd_gI (o := 10) (k := 8) (f := 328) hj cx hw hic10 rfl ⟨by decide, rfl, by decide, rfl⟩ rfl (by decide) (List.mem_cons_of_mem _ cm_665) dX4_needName_4 ?_
  refine lv_iconst (v := 2) cx.1 cx.2.1 dX4_needName_7 (by decide) ?_
  refine lv_icmp_eq (tgt := 23) cx.1 cx.2.1 dX4_needName_8 (by decide) (fun c8 => ?_) (fun c8 => ?_)
  · have h := md_ip c8 h
    exact hp_vret cx hw ((cd_retb hj (congrArg some (Sum.inl.inj (Option.some.inj h)))).2) dX4_needName_23 (cd_le1 (congrArg some (Sum.inl.inj (Option.some.inj h)))) (cd_le2 (congrArg some (Sum.inl.inj (Option.some.inj h))))
  · have h := md_in c8 h
    refine lv_aload_n cx.1 cx.2.1 dX4_needName_11 rfl (lv_at hl 0 rfl) ?_
    refine lv_iconst (v := 1) cx.1 cx.2.1 dX4_needName_12 (by decide) ?_
    refine lv_aload_n cx.1 cx.2.1 dX4_needName_13 rfl (lv_at hl 0 rfl) ?_
    refine cd_gO (o2 := 10) (e2 := 0) (o := 4) (k := 0) (f := 128) hj cx hw hic4 rfl ⟨by decide, rfl, by decide, rfl⟩ rfl (by decide) ⟨rfl, rfl⟩ (List.mem_cons_of_mem _ cm_658) dX4_needName_14 ?_
    refine cd_gI (o := 10) (k := 9) (f := 329) hj cx hw hic10 rfl ⟨by decide, rfl, by decide, rfl⟩ rfl (by decide) (List.mem_cons_of_mem _ cm_659) dX4_needName_17 ?_
    obtain ⟨q1, e_q1, h⟩ := md_ob h
    obtain ⟨hm2, hn2, h⟩ := cd_cks h
    have hM2 : p.2.2.1 ≤ (Sum.elim (fun (p : Int32 × cd_S × cd_B) => p.2.2) (fun (t : cd_S × cd_B) => t.2) q1).1 ∧ p.2.2.2 ≤ (Sum.elim (fun (p : Int32 × cd_S × cd_B) => p.2.2) (fun (t : cd_S × cd_B) => t.2) q1).2 := ⟨hm2, hn2⟩
    cases q1 with
    | inr t1 =>
      exact nomatch Option.some.inj h
    | inl p1 =>
      have hle1 := (kc_X4_refuse l D cA E sz ad _ hj oq sgq sgv hE n σ0 b0 (1 : Int32) ((cI σ0 329 0)) p1 e_q1).1
      have hM10002 : p.2.2.1 ≤ p1.2.2.1 ∧ p.2.2.2 ≤ p1.2.2.2 := hM2
      have h := cd_inl h
      refine hp_callVv (As := [.int 1, .int (cI σ0 329 0)]) (rest := []) cx hw ((kc_X4_refuse l D cA E _ ad _ hj oq sgq sgv hE n σ0 b0 (1 : Int32) ((cI σ0 329 0)) p1 e_q1).2) (cwV 2 cx.2.2.2.2.2.1 (cd_giV cm_660 cm_661 cm_662 cm_663 cm_664) rfl rfl rfl hdc_X4_refuse ⟨Nat.le_of_ble_eq_true rfl, Nat.le_of_ble_eq_true rfl⟩) (cd_atO hj (by decide) (by decide)) rfl rfl hl.1 rfl (Nat.le_of_ble_eq_true rfl) dX4_needName_20 ⟨by (try dsimp only); omega, by (try dsimp only); omega⟩ (fun u H locs hp hw => ?_)
      obtain ⟨ca, hj, rfl⟩ := hp
      refine W.widen (k := b0.1 - p1.2.2.1) (n := b0.2 - p1.2.2.2) (by omega) (by omega) ?_
      exact hp_vret cx hw ((cd_retb hj (congrArg some (Sum.inl.inj (Option.some.inj h)))).2) dX4_needName_23 (cd_le1 (congrArg some (Sum.inl.inj (Option.some.inj h)))) (cd_le2 (congrArg some (Sum.inl.inj (Option.some.inj h))))
set_option maxHeartbeats 4000000 in
set_option maxRecDepth 100000 in
theorem kc_X4_room (l : Launch) (D : va_G) (cA : Nat → ClassId) (E : hp_N) (sz : Nat) (ad : Nat → Nat → Nat) (ca0 : Nat → Nat) (hj : cd_inj ad ca0) (oq sgq sgv : Nat) (hE : cd_E E oq sgq sgv) (n : Nat) (σ0 : cd_S) (b0 : cd_B) (a1 : Int32) (p : (Int32 × cd_S × cd_B)) (h : f_X4_room n σ0 b0 a1 = some (Sum.inl p)) : (p.2.2.1 ≤ b0.1 ∧ p.2.2.2 ≤ b0.2) ∧ Met l yX4_room (Cond.code yX4_room cX4_room 2 none :: v_CLS) ({ frames := 13, cells := b0.1 - p.2.2.1, slots := b0.2 - p.2.2.2, locals := 222 }) (hp_Pc D vwCl (hp_Tl cA) E sz (cd_pic cA ad ca0 σ0) [.ref (ad 4 0), .int a1]) (hp_Qv D vwCl (hp_Tl cA) sz (cd_pic cA ad ca0 σ0) (fun u => ∃ ca1, cd_inj ad ca1 ∧ u = cd_pic cA ad ca1 p.2.1)) (b0.1 - p.2.2.1) (b0.2 - p.2.2.2) (hp_A (cd_pic cA ad ca0 σ0) sz) := by
  obtain ⟨hm0, hn0, h⟩ := cd_cks h
  have hM0 : p.2.2.1 ≤ b0.1 ∧ p.2.2.2 ≤ b0.2 := ⟨hm0, hn0⟩
  refine ⟨hM0, ?_⟩
  refine hp_ofW (cc := cX4_room) (maxL := 2) (ret := none) (by decide) rfl (Nat.le_of_ble_eq_true rfl) ?_
  intro pp ee ss mm bb mt cd ls cx hsz hw hl
  have hl : lv_has ls 2 [(0, .ref (ad 4 0)), (1, .int a1)] := hl
  refine W.widen (k := b0.1 - b0.1) (n := b0.2 - b0.2) (Nat.zero_le _) (Nat.zero_le _) ?_
  refine lv_iload_n cx.1 cx.2.1 dX4_room_0 rfl (lv_at hl 1 rfl) ?_
  refine lv_if_ne (tgt := 16) cx.1 cx.2.1 dX4_room_1 (by decide) (fun c1 => ?_) (fun c1 => ?_)
  · have h := md_in c1 h
    exact hp_vret cx hw ((cd_retb hj (congrArg some (Sum.inl.inj (Option.some.inj h)))).2) dX4_room_16 (cd_le1 (congrArg some (Sum.inl.inj (Option.some.inj h)))) (cd_le2 (congrArg some (Sum.inl.inj (Option.some.inj h))))
  · have h := md_ip c1 h
    refine lv_aload_n cx.1 cx.2.1 dX4_room_4 rfl (lv_at hl 0 rfl) ?_
    refine lv_iconst (v := 4) cx.1 cx.2.1 dX4_room_5 (by decide) ?_
    refine lv_aload_n cx.1 cx.2.1 dX4_room_6 rfl (lv_at hl 0 rfl) ?_
    refine cd_gO (o2 := 10) (e2 := 0) (o := 4) (k := 0) (f := 128) hj cx hw hic4 rfl ⟨by decide, rfl, by decide, rfl⟩ rfl (by decide) ⟨rfl, rfl⟩ (List.mem_cons_of_mem _ cm_658) dX4_room_7 ?_
    refine cd_gI (o := 10) (k := 9) (f := 329) hj cx hw hic10 rfl ⟨by decide, rfl, by decide, rfl⟩ rfl (by decide) (List.mem_cons_of_mem _ cm_659) dX4_room_10 ?_
    obtain ⟨q1, e_q1, h⟩ := md_ob h
    obtain ⟨hm2, hn2, h⟩ := cd_cks h
    have hM2 : p.2.2.1 ≤ (Sum.elim (fun (p : Int32 × cd_S × cd_B) => p.2.2) (fun (t : cd_S × cd_B) => t.2) q1).1 ∧ p.2.2.2 ≤ (Sum.elim (fun (p : Int32 × cd_S × cd_B) => p.2.2) (fun (t : cd_S × cd_B) => t.2) q1).2 := ⟨hm2, hn2⟩
    cases q1 with
    | inr t1 =>
      exact nomatch Option.some.inj h
    | inl p1 =>
      have hle1 := (kc_X4_refuse l D cA E sz ad _ hj oq sgq sgv hE n σ0 b0 (4 : Int32) ((cI σ0 329 0)) p1 e_q1).1
      have hM10002 : p.2.2.1 ≤ p1.2.2.1 ∧ p.2.2.2 ≤ p1.2.2.2 := hM2
      have h := cd_inl h
      refine hp_callVv (As := [.int 4, .int (cI σ0 329 0)]) (rest := []) cx hw ((kc_X4_refuse l D cA E _ ad _ hj oq sgq sgv hE n σ0 b0 (4 : Int32) ((cI σ0 329 0)) p1 e_q1).2) (cwV 2 cx.2.2.2.2.2.1 (cd_giV cm_660 cm_661 cm_662 cm_663 cm_664) rfl rfl rfl hdc_X4_refuse ⟨Nat.le_of_ble_eq_true rfl, Nat.le_of_ble_eq_true rfl⟩) (cd_atO hj (by decide) (by decide)) rfl rfl hl.1 rfl (Nat.le_of_ble_eq_true rfl) dX4_room_13 ⟨by (try dsimp only); omega, by (try dsimp only); omega⟩ (fun u H locs hp hw => ?_)
      obtain ⟨ca, hj, rfl⟩ := hp
      refine W.widen (k := b0.1 - p1.2.2.1) (n := b0.2 - p1.2.2.2) (by omega) (by omega) ?_
      exact hp_vret cx hw ((cd_retb hj (congrArg some (Sum.inl.inj (Option.some.inj h)))).2) dX4_room_16 (cd_le1 (congrArg some (Sum.inl.inj (Option.some.inj h)))) (cd_le2 (congrArg some (Sum.inl.inj (Option.some.inj h))))
set_option maxHeartbeats 4000000 in
set_option maxRecDepth 100000 in
theorem kc_X10_copyPattern (l : Launch) (D : va_G) (cA : Nat → ClassId) (E : hp_N) (sz : Nat) (ad : Nat → Nat → Nat) (ca0 : Nat → Nat) (hj : cd_inj ad ca0) (oq sgq sgv : Nat) (hE : cd_E E oq sgq sgv) (n : Nat) (σ0 : cd_S) (a1 : Nat) (hb_a1 : a1 < 196) (p : (Int32 × cd_S)) (h : f_X10_copyPattern n σ0 a1 = some p) : Met l yX10_copyPattern (Cond.code yX10_copyPattern cX10_copyPattern 4 none :: v_CLS) ({ frames := 1, cells := 0, slots := 0, locals := 22 }) (hp_Pc D vwCl (hp_Tl cA) E sz (cd_pic cA ad ca0 σ0) [.ref (ad 10 0), .ref (ad 5 a1)]) (hp_Qv D vwCl (hp_Tl cA) sz (cd_pic cA ad ca0 σ0) (fun u => ∃ ca1, cd_inj ad ca1 ∧ u = cd_pic cA ad ca1 p.2)) 0 0 (hp_A (cd_pic cA ad ca0 σ0) sz) := by
  refine hp_ofW (cc := cX10_copyPattern) (maxL := 4) (ret := none) (by decide) rfl (Nat.le_of_ble_eq_true rfl) ?_
  intro pp ee ss mm bb mt cd ls cx hsz hw hl
  have hl : lv_has ls 4 [(0, .ref (ad 10 0)), (1, .ref (ad 5 a1))] := hl
  refine lv_aload_n cx.1 cx.2.1 dX10_copyPattern_0 rfl (lv_at hl 0 rfl) ?_
  refine cd_gJ (o := 10) (k := 10) (f := 330) hj cx hw hic10 rfl ⟨by decide, rfl, by decide, rfl⟩ rfl (by decide) (List.mem_cons_of_mem _ cm_655) dX10_copyPattern_1 ?_
  refine lv_l2i (v := ((cJ σ0 330 0).toInt32)) cx.1 cx.2.1 dX10_copyPattern_4 rfl ?_
  refine lv_istore_n (lv' := [(2, .int ((cJ σ0 330 0).toInt32)), (0, .ref (ad 10 0)), (1, .ref (ad 5 a1))]) cx.1 cx.2.1 dX10_copyPattern_5 rfl hl (by decide) rfl (fun ls hl => ?_)
  refine lv_aload_n cx.1 cx.2.1 dX10_copyPattern_6 rfl (lv_at hl 2 rfl) ?_
  refine lv_iconst (v := 0) cx.1 cx.2.1 dX10_copyPattern_7 (by decide) ?_
  obtain ⟨σ1, e_σ1, h⟩ := md_ob h
  refine cd_pI (o := 5) (k := 2) (f := 162) hj cx hw hic5 rfl ⟨by decide, rfl, by decide, rfl⟩ tyX5_ok nmX5 rfl (show _ < 196 by omega) rfl (List.mem_cons_of_mem _ cm_674) rfl e_σ1 dX10_copyPattern_8 (fun H locs hw => ?_)
  refine lv_aload_n cx.1 cx.2.1 dX10_copyPattern_11 rfl (lv_at hl 2 rfl) ?_
  refine lv_aload_n cx.1 cx.2.1 dX10_copyPattern_12 rfl (lv_at hl 1 rfl) ?_
  refine cd_gO (o2 := 6) (e2 := 1) (o := 10) (k := 2) (f := 322) hj cx hw hic10 rfl ⟨by decide, rfl, by decide, rfl⟩ rfl (by decide) ⟨rfl, rfl⟩ (List.mem_cons_of_mem _ cm_675) dX10_copyPattern_13 ?_
  refine lv_iload_n cx.1 cx.2.1 dX10_copyPattern_16 rfl (lv_at hl 0 rfl) ?_
  refine lv_iconst (v := 1) cx.1 cx.2.1 dX10_copyPattern_17 (by decide) ?_
  refine lv_iadd cx.1 cx.2.1 dX10_copyPattern_18 ?_
  obtain ⟨p2, e_p2, h⟩ := md_ob h
  refine hp_callVi (As := [.int (((cJ σ0 330 0).toInt32) + 1)]) (rest := [.ref (ad 5 a1)]) cx hw (kc_X6_at l D cA E _ ad _ hj oq sgq sgv hE n σ1 1 ((((cJ σ0 330 0).toInt32) + 1)) (by decide) p2 e_p2) (cwV 1 cx.2.2.2.2.2.1 (cd_giV cm_651 cm_17 cm_18 cm_5 cm_19) rfl rfl rfl hdc_X6_at ⟨Nat.le_of_ble_eq_true rfl, Nat.le_of_ble_eq_true rfl⟩) (cd_atO hj (by decide) (by decide)) rfl rfl hl.1 rfl (Nat.le_of_ble_eq_true rfl) dX10_copyPattern_19 ⟨Nat.le_refl _, Nat.le_refl _⟩ (fun r u H locs hp hw => ?_)
  obtain ⟨rfl, ca, hj, rfl⟩ := hp
  obtain ⟨σ3, e_σ3, h⟩ := md_ob h
  refine cd_pI (o := 5) (k := 3) (f := 163) hj cx hw hic5 rfl ⟨by decide, rfl, by decide, rfl⟩ tyX5_ok nmX5 rfl (show _ < 196 by omega) rfl (List.mem_cons_of_mem _ cm_676) rfl e_σ3 dX10_copyPattern_22 (fun H locs hw => ?_)
  refine lv_iconst (v := 0) cx.1 cx.2.1 dX10_copyPattern_25 (by decide) ?_
  refine lv_istore_n (lv' := [(3, .int 0), (2, .int ((cJ σ0 330 0).toInt32)), (0, .ref (ad 10 0)), (1, .ref (ad 5 a1))]) cx.1 cx.2.1 dX10_copyPattern_26 rfl hl (by decide) rfl (fun ls hl => ?_)
  have L27 : ∀ (j : Nat) (ca : Nat → Nat) (hj : cd_inj ad ca) (σ : cd_S) (l2 : Int32) (l3 : Int32) (q : (cd_S × Int32)) (H : Heap) (locs : List Loc) (ls : Array Slot), f_X10_copyPattern_L27 n a1 l2 j σ l3 = some q → hp_w D vwCl (hp_Tl cA) E (hp_A (cd_pic cA ad ca0 σ0) sz) ss H locs (cd_pic cA ad ca σ) → lv_has ls 4 [(0, .ref (ad 10 0)), (1, .ref (ad 5 a1)), (2, .int l2), (3, .int l3)] → (∀ (ca : Nat → Nat) (hj : cd_inj ad ca) (H : Heap) (locs : List Loc) (ls : Array Slot), hp_w D vwCl (hp_Tl cA) E (hp_A (cd_pic cA ad ca0 σ0) sz) ss H locs (cd_pic cA ad ca q.1) → lv_has ls 4 [] → W pp l ee ({ frames := 1, cells := 0, slots := 0, locals := 22 }) ss mm [.ref (ad 10 0), .ref (ad 5 a1)].toArray bb mt cd H locs 0 0 (MQ bb (hp_Qv D vwCl (hp_Tl cA) sz (cd_pic cA ad ca0 σ0) (fun u => ∃ ca1, cd_inj ad ca1 ∧ u = cd_pic cA ad ca1 p.2)) [.ref (ad 10 0), .ref (ad 5 a1)].toArray ss 0 0 (hp_A (cd_pic cA ad ca0 σ0) sz)) (F0 mm 61 ls [])) → W pp l ee ({ frames := 1, cells := 0, slots := 0, locals := 22 }) ss mm [.ref (ad 10 0), .ref (ad 5 a1)].toArray bb mt cd H locs 0 0 (MQ bb (hp_Qv D vwCl (hp_Tl cA) sz (cd_pic cA ad ca0 σ0) (fun u => ∃ ca1, cd_inj ad ca1 ∧ u = cd_pic cA ad ca1 p.2)) [.ref (ad 10 0), .ref (ad 5 a1)].toArray ss 0 0 (hp_A (cd_pic cA ad ca0 σ0) sz)) (F0 mm 27 ls []) := by
    intro j
    induction j with
    | zero => intro ca hj σ l2 l3 q H locs ls h; exact nomatch h
    | succ j ih =>
      intro ca hj σ l2 l3 q H locs ls h hw hl K
      unfold f_X10_copyPattern_L27 at h
      refine lv_iload_n cx.1 cx.2.1 dX10_copyPattern_27 rfl (lv_at hl 3 rfl) ?_
      refine lv_aload_n cx.1 cx.2.1 dX10_copyPattern_28 rfl (lv_at hl 0 rfl) ?_
      refine cd_gO (o2 := 6) (e2 := 1) (o := 10) (k := 2) (f := 322) hj cx hw hic10 rfl ⟨by decide, rfl, by decide, rfl⟩ rfl (by decide) ⟨rfl, rfl⟩ (List.mem_cons_of_mem _ cm_675) dX10_copyPattern_29 ?_
      refine lv_iload_n cx.1 cx.2.1 dX10_copyPattern_32 rfl (lv_at hl 2 rfl) ?_
      obtain ⟨p4, e_p4, h⟩ := md_ob h
      refine hp_callVi (As := [.int l2]) (rest := [.int l3]) cx hw (kc_X6_at l D cA E _ ad _ hj oq sgq sgv hE n σ 1 l2 (by decide) p4 e_p4) (cwV 1 cx.2.2.2.2.2.1 (cd_giV cm_651 cm_17 cm_18 cm_5 cm_19) rfl rfl rfl hdc_X6_at ⟨Nat.le_of_ble_eq_true rfl, Nat.le_of_ble_eq_true rfl⟩) (cd_atO hj (by decide) (by decide)) rfl rfl hl.1 rfl (Nat.le_of_ble_eq_true rfl) dX10_copyPattern_33 ⟨Nat.le_refl _, Nat.le_refl _⟩ (fun r u H locs hp hw => ?_)
      obtain ⟨rfl, ca, hj, rfl⟩ := hp
      refine lv_icmp_ge (tgt := 61) cx.1 cx.2.1 dX10_copyPattern_36 (by decide) (fun c36 => ?_) (fun c36 => ?_)
      · have h := md_ip c36 h
        obtain rfl := Option.some.inj h
        exact K _ hj _ _ _ hw (lv_sub hl [] rfl)
      · have h := md_in c36 h
        refine lv_aload_n cx.1 cx.2.1 dX10_copyPattern_39 rfl (lv_at hl 1 rfl) ?_
        refine lv_aload_n cx.1 cx.2.1 dX10_copyPattern_40 rfl (lv_at hl 0 rfl) ?_
        refine cd_gO (o2 := 6) (e2 := 1) (o := 10) (k := 2) (f := 322) hj cx hw hic10 rfl ⟨by decide, rfl, by decide, rfl⟩ rfl (by decide) ⟨rfl, rfl⟩ (List.mem_cons_of_mem _ cm_675) dX10_copyPattern_41 ?_
        refine lv_iload_n cx.1 cx.2.1 dX10_copyPattern_44 rfl (lv_at hl 2 rfl) ?_
        refine lv_iconst (v := 2) cx.1 cx.2.1 dX10_copyPattern_45 (by decide) ?_
        refine lv_iadd cx.1 cx.2.1 dX10_copyPattern_46 ?_
        refine lv_iload_n cx.1 cx.2.1 dX10_copyPattern_47 rfl (lv_at hl 3 rfl) ?_
        refine lv_iadd cx.1 cx.2.1 dX10_copyPattern_48 ?_
        obtain ⟨p5, e_p5, h⟩ := md_ob h
        refine hp_callVl (As := [.int ((l2 + 2) + l3)]) (rest := [.ref (ad 5 a1)]) cx hw (kc_X6_get l D cA E _ ad _ hj oq sgq sgv hE n p4.2 1 (((l2 + 2) + l3)) (by decide) p5 e_p5) (cwV 1 cx.2.2.2.2.2.1 (cd_giV cm_654 cm_240 cm_241 cm_5 cm_242) rfl rfl rfl hdc_X6_get ⟨Nat.le_of_ble_eq_true rfl, Nat.le_of_ble_eq_true rfl⟩) (cd_atO hj (by decide) (by decide)) rfl rfl hl.1 rfl (Nat.le_of_ble_eq_true rfl) dX10_copyPattern_49 ⟨Nat.le_refl _, Nat.le_refl _⟩ (fun r u H locs hp hw => ?_)
        obtain ⟨rfl, ca, hj, rfl⟩ := hp
        obtain ⟨p6, e_p6, h⟩ := md_ob h
        refine hp_callVv (As := [.long p5.1]) (rest := []) cx hw (kc_X5_addStep l D cA E _ ad _ hj oq sgq sgv hE n p5.2 a1 (p5.1) (show _ < 196 by omega) p6 e_p6) (cwV 1 cx.2.2.2.2.2.1 (cd_giV cm_677 cm_304 cm_305 cm_306 cm_307) rfl rfl rfl hdc_X5_addStep ⟨Nat.le_of_ble_eq_true rfl, Nat.le_of_ble_eq_true rfl⟩) (cd_atO hj (by decide) (show _ < 196 by omega)) rfl rfl hl.1 rfl (Nat.le_of_ble_eq_true rfl) dX10_copyPattern_52 ⟨Nat.le_refl _, Nat.le_refl _⟩ (fun u H locs hp hw => ?_)
        obtain ⟨ca, hj, rfl⟩ := hp
        refine lv_iinc (v := (l3 + 1)) (lv' := [(3, .int (l3 + 1)), (0, .ref (ad 10 0)), (1, .ref (ad 5 a1)), (2, .int l2)]) cx.1 cx.2.1 dX10_copyPattern_55 hl (k := 3) rfl rfl (by decide) rfl (fun ls hl => ?_)
        refine lv_goto (tgt := 27) cx.1 cx.2.1 dX10_copyPattern_58 (by decide) ?_
        exact ih _ hj p6.2 l2 ((l3 + 1)) q _ _ _ h hw (lv_sub hl [1, 2, 3, 0] rfl) K
  obtain ⟨q7, e_q7, h⟩ := md_ob h
  refine L27 n _ hj σ3 (((cJ σ0 330 0).toInt32)) 0 q7 _ _ _ e_q7 hw (lv_sub hl [2, 3, 1, 0] rfl) (fun ca hj H locs ls hw hl => ?_)
  exact hp_vret cx hw ((cd_ret hj h).2) dX10_copyPattern_61
set_option maxHeartbeats 4000000 in
set_option maxRecDepth 100000 in
theorem kc_X10_hasTail (l : Launch) (D : va_G) (cA : Nat → ClassId) (E : hp_N) (sz : Nat) (ad : Nat → Nat → Nat) (ca0 : Nat → Nat) (hj : cd_inj ad ca0) (oq sgq sgv : Nat) (hE : cd_E E oq sgq sgv) (n : Nat) (σ0 : cd_S) (p : (Int32 × cd_S)) (h : f_X10_hasTail n σ0 = some p) : Met l yX10_hasTail (Cond.code yX10_hasTail cX10_hasTail 1 (some .boolean) :: v_CLS) ({ frames := 1, cells := 0, slots := 0, locals := 21 }) (hp_Pc D vwCl (hp_Tl cA) E sz (cd_pic cA ad ca0 σ0) [.ref (ad 10 0)]) (hp_Qi D vwCl (hp_Tl cA) sz (cd_pic cA ad ca0 σ0) (fun r u => r = p.1 ∧ ∃ ca1, cd_inj ad ca1 ∧ u = cd_pic cA ad ca1 p.2)) 0 0 (hp_A (cd_pic cA ad ca0 σ0) sz) := by
  refine hp_ofW (cc := cX10_hasTail) (maxL := 1) (ret := (some .boolean)) (by decide) rfl (Nat.le_of_ble_eq_true rfl) ?_
  intro pp ee ss mm bb mt cd ls cx hsz hw hl
  have hl : lv_has ls 1 [(0, .ref (ad 10 0))] := hl
  refine lv_aload_n cx.1 cx.2.1 dX10_hasTail_0 rfl (lv_at hl 0 rfl) ?_
  refine cd_gI (o := 10) (k := 8) (f := 328) hj cx hw hic10 rfl ⟨by decide, rfl, by decide, rfl⟩ rfl (by decide) (List.mem_cons_of_mem _ cm_652) dX10_hasTail_1 ?_
  refine lv_iconst (v := 4) cx.1 cx.2.1 dX10_hasTail_4 (by decide) ?_
  refine lv_icmp_ne (tgt := 29) cx.1 cx.2.1 dX10_hasTail_5 (by decide) (fun c5 => ?_) (fun c5 => ?_)
  · have h := md_in c5 h
    refine lv_iconst (v := 0) cx.1 cx.2.1 dX10_hasTail_29 (by decide) ?_
    exact hp_zret cx hw (cd_ret hj h) (by decide) dX10_hasTail_30
  · have h := md_ip c5 h
    refine lv_aload_n cx.1 cx.2.1 dX10_hasTail_8 rfl (lv_at hl 0 rfl) ?_
    refine cd_gO (o2 := 6) (e2 := 1) (o := 10) (k := 2) (f := 322) hj cx hw hic10 rfl ⟨by decide, rfl, by decide, rfl⟩ rfl (by decide) ⟨rfl, rfl⟩ (List.mem_cons_of_mem _ cm_675) dX10_hasTail_9 ?_
    refine lv_aload_n cx.1 cx.2.1 dX10_hasTail_12 rfl (lv_at hl 0 rfl) ?_
    refine cd_gJ (o := 10) (k := 10) (f := 330) hj cx hw hic10 rfl ⟨by decide, rfl, by decide, rfl⟩ rfl (by decide) (List.mem_cons_of_mem _ cm_655) dX10_hasTail_13 ?_
    refine lv_l2i (v := ((cJ σ0 330 0).toInt32)) cx.1 cx.2.1 dX10_hasTail_16 rfl ?_
    refine lv_iconst (v := 1) cx.1 cx.2.1 dX10_hasTail_17 (by decide) ?_
    refine lv_iadd cx.1 cx.2.1 dX10_hasTail_18 ?_
    obtain ⟨p1, e_p1, h⟩ := md_ob h
    refine hp_callVi (As := [.int (((cJ σ0 330 0).toInt32) + 1)]) (rest := []) cx hw (kc_X6_at l D cA E _ ad _ hj oq sgq sgv hE n σ0 1 ((((cJ σ0 330 0).toInt32) + 1)) (by decide) p1 e_p1) (cwV 1 cx.2.2.2.2.2.1 (cd_giV cm_651 cm_17 cm_18 cm_5 cm_19) rfl rfl rfl hdc_X6_at ⟨Nat.le_of_ble_eq_true rfl, Nat.le_of_ble_eq_true rfl⟩) (cd_atO hj (by decide) (by decide)) rfl rfl hl.1 rfl (Nat.le_of_ble_eq_true rfl) dX10_hasTail_19 ⟨Nat.le_refl _, Nat.le_refl _⟩ (fun r u H locs hp hw => ?_)
    obtain ⟨rfl, ca, hj, rfl⟩ := hp
    refine lv_if_eq (tgt := 29) cx.1 cx.2.1 dX10_hasTail_22 (by decide) (fun c22 => ?_) (fun c22 => ?_)
    · have h := md_ip c22 h
      refine lv_iconst (v := 0) cx.1 cx.2.1 dX10_hasTail_29 (by decide) ?_
      exact hp_zret cx hw (cd_ret hj h) (by decide) dX10_hasTail_30
    · have h := md_in c22 h
      refine lv_iconst (v := 1) cx.1 cx.2.1 dX10_hasTail_25 (by decide) ?_
      refine lv_goto (tgt := 30) cx.1 cx.2.1 dX10_hasTail_26 (by decide) ?_
      exact hp_zret cx hw (cd_ret hj h) (by decide) dX10_hasTail_30
set_option maxHeartbeats 4000000 in
set_option maxRecDepth 100000 in
theorem kc_X4_takePattern (l : Launch) (D : va_G) (cA : Nat → ClassId) (E : hp_N) (sz : Nat) (ad : Nat → Nat → Nat) (ca0 : Nat → Nat) (hj : cd_inj ad ca0) (oq sgq sgv : Nat) (hE : cd_E E oq sgq sgv) (n : Nat) (σ0 : cd_S) (b0 : cd_B) (a1 : Int32) (p : (Int32 × cd_S × cd_B)) (h : f_X4_takePattern n σ0 b0 a1 = some (Sum.inl p)) : (p.2.2.1 ≤ b0.1 ∧ p.2.2.2 ≤ b0.2) ∧ Met l yX4_takePattern (Cond.code yX4_takePattern cX4_takePattern 2 none :: v_CLS) ({ frames := 14, cells := b0.1 - p.2.2.1, slots := b0.2 - p.2.2.2, locals := 243 }) (hp_Pc D vwCl (hp_Tl cA) E sz (cd_pic cA ad ca0 σ0) [.ref (ad 4 0), .int a1]) (hp_Qv D vwCl (hp_Tl cA) sz (cd_pic cA ad ca0 σ0) (fun u => ∃ ca1, cd_inj ad ca1 ∧ u = cd_pic cA ad ca1 p.2.1)) (b0.1 - p.2.2.1) (b0.2 - p.2.2.2) (hp_A (cd_pic cA ad ca0 σ0) sz) := by
  obtain ⟨hm0, hn0, h⟩ := cd_cks h
  have hM0 : p.2.2.1 ≤ b0.1 ∧ p.2.2.2 ≤ b0.2 := ⟨hm0, hn0⟩
  refine ⟨hM0, ?_⟩
  refine hp_ofW (cc := cX4_takePattern) (maxL := 2) (ret := none) (by decide) rfl (Nat.le_of_ble_eq_true rfl) ?_
  intro pp ee ss mm bb mt cd ls cx hsz hw hl
  have hl : lv_has ls 2 [(0, .ref (ad 4 0)), (1, .int a1)] := hl
  refine W.widen (k := b0.1 - b0.1) (n := b0.2 - b0.2) (Nat.zero_le _) (Nat.zero_le _) ?_
  have J46 : ∀ (ca : Nat → Nat) (hj : cd_inj ad ca) (σ : cd_S) (b : cd_B) (H : Heap) (locs : List Loc) (ls : Array Slot), b.1 ≤ b0.1 → b.2 ≤ b0.2 → p.2.2.1 ≤ b.1 → p.2.2.2 ≤ b.2 → f_X4_takePattern_J46 n σ b = some (Sum.inl p) → hp_w D vwCl (hp_Tl cA) E (hp_A (cd_pic cA ad ca0 σ0) sz) ss H locs (cd_pic cA ad ca σ) → lv_has ls 2 [(0, .ref (ad 4 0))] → W pp l ee ({ frames := 14, cells := b0.1 - p.2.2.1, slots := b0.2 - p.2.2.2, locals := 243 }) ss mm [.ref (ad 4 0), .int a1].toArray bb mt cd H locs (b0.1 - b.1) (b0.2 - b.2) (MQ bb (hp_Qv D vwCl (hp_Tl cA) sz (cd_pic cA ad ca0 σ0) (fun u => ∃ ca1, cd_inj ad ca1 ∧ u = cd_pic cA ad ca1 p.2.1)) [.ref (ad 4 0), .int a1].toArray ss (b0.1 - p.2.2.1) (b0.2 - p.2.2.2) (hp_A (cd_pic cA ad ca0 σ0) sz)) (F0 mm 46 ls []) := by
    intro ca hj σ b H locs ls hb1 hb2 hf1 hf2 h hw hl
    refine lv_aload_n cx.1 cx.2.1 dX4_takePattern_46 rfl (lv_at hl 0 rfl) ?_
    refine cd_gO (o2 := 10) (e2 := 0) (o := 4) (k := 0) (f := 128) hj cx hw hic4 rfl ⟨by decide, rfl, by decide, rfl⟩ rfl (by decide) ⟨rfl, rfl⟩ (List.mem_cons_of_mem _ cm_658) dX4_takePattern_47 ?_
    refine lv_aload_n cx.1 cx.2.1 dX4_takePattern_50 rfl (lv_at hl 0 rfl) ?_
    refine cd_gO (o2 := 5) (e2 := 193) (o := 4) (k := 3) (f := 131) hj cx hw hic4 rfl ⟨by decide, rfl, by decide, rfl⟩ rfl (by decide) ⟨rfl, rfl⟩ (List.mem_cons_of_mem _ cm_682) dX4_takePattern_51 ?_
    obtain ⟨p1, e_p1, h⟩ := md_ob h
    refine hp_callVv (As := [.ref (ad 5 193)]) (rest := []) cx hw (kc_X10_copyPattern l D cA E _ ad _ hj oq sgq sgv hE n σ 193 (by decide) p1 e_p1) (cwV 1 cx.2.2.2.2.2.1 (cd_giV cm_683 cm_684 cm_685 cm_301 cm_686) rfl rfl rfl hdc_X10_copyPattern ⟨Nat.le_of_ble_eq_true rfl, Nat.le_of_ble_eq_true rfl⟩) (cd_atO hj (by decide) (by decide)) rfl rfl hl.1 rfl (Nat.le_of_ble_eq_true rfl) dX4_takePattern_54 ⟨by (try dsimp only); omega, by (try dsimp only); omega⟩ (fun u H locs hp hw => ?_)
    obtain ⟨ca, hj, rfl⟩ := hp
    refine lv_aload_n cx.1 cx.2.1 dX4_takePattern_57 rfl (lv_at hl 0 rfl) ?_
    refine cd_gO (o2 := 10) (e2 := 0) (o := 4) (k := 0) (f := 128) hj cx hw hic4 rfl ⟨by decide, rfl, by decide, rfl⟩ rfl (by decide) ⟨rfl, rfl⟩ (List.mem_cons_of_mem _ cm_658) dX4_takePattern_58 ?_
    obtain ⟨p2, e_p2, h⟩ := md_ob h
    refine hp_callVv (As := []) (rest := []) cx hw (kc_X10_advance l D cA E _ ad _ hj oq sgq sgv hE n p1.2  p2 e_p2) (cwV 0 cx.2.2.2.2.2.1 (cd_giV cm_670 cm_671 cm_672 cm_301 cm_673) rfl rfl rfl hdc_X10_advance ⟨Nat.le_of_ble_eq_true rfl, Nat.le_of_ble_eq_true rfl⟩) (cd_atO hj (by decide) (by decide)) rfl rfl hl.1 rfl (Nat.le_of_ble_eq_true rfl) dX4_takePattern_61 ⟨by (try dsimp only); omega, by (try dsimp only); omega⟩ (fun u H locs hp hw => ?_)
    obtain ⟨ca, hj, rfl⟩ := hp
    exact hp_vret cx hw ((cd_retb hj (congrArg some (Sum.inl.inj (Option.some.inj h)))).2) dX4_takePattern_64 (cd_le1 (congrArg some (Sum.inl.inj (Option.some.inj h)))) (cd_le2 (congrArg some (Sum.inl.inj (Option.some.inj h))))
  have J17 : ∀ (ca : Nat → Nat) (hj : cd_inj ad ca) (σ : cd_S) (b : cd_B) (l1 : Int32) (t0 : Int32) (H : Heap) (locs : List Loc) (ls : Array Slot), b.1 ≤ b0.1 → b.2 ≤ b0.2 → p.2.2.1 ≤ b.1 → p.2.2.2 ≤ b.2 → f_X4_takePattern_J17 n σ b l1 t0 = some (Sum.inl p) → hp_w D vwCl (hp_Tl cA) E (hp_A (cd_pic cA ad ca0 σ0) sz) ss H locs (cd_pic cA ad ca σ) → lv_has ls 2 [(0, .ref (ad 4 0)), (1, .int l1)] → W pp l ee ({ frames := 14, cells := b0.1 - p.2.2.1, slots := b0.2 - p.2.2.2, locals := 243 }) ss mm [.ref (ad 4 0), .int a1].toArray bb mt cd H locs (b0.1 - b.1) (b0.2 - b.2) (MQ bb (hp_Qv D vwCl (hp_Tl cA) sz (cd_pic cA ad ca0 σ0) (fun u => ∃ ca1, cd_inj ad ca1 ∧ u = cd_pic cA ad ca1 p.2.1)) [.ref (ad 4 0), .int a1].toArray ss (b0.1 - p.2.2.1) (b0.2 - p.2.2.2) (hp_A (cd_pic cA ad ca0 σ0) sz)) (F0 mm 17 ls [.int t0, .ref (ad 4 0)]) := by
    intro ca hj σ b l1 t0 H locs ls hb1 hb2 hf1 hf2 h hw hl
    obtain ⟨q3, e_q3, h⟩ := md_ob h
    obtain ⟨hm4, hn4, h⟩ := cd_cks h
    have hM4 : p.2.2.1 ≤ (Sum.elim (fun (p : Int32 × cd_S × cd_B) => p.2.2) (fun (t : cd_S × cd_B) => t.2) q3).1 ∧ p.2.2.2 ≤ (Sum.elim (fun (p : Int32 × cd_S × cd_B) => p.2.2) (fun (t : cd_S × cd_B) => t.2) q3).2 := ⟨hm4, hn4⟩
    cases q3 with
    | inr t3 =>
      exact nomatch Option.some.inj h
    | inl p3 =>
      have hle3 := (kc_X4_need l D cA E sz ad _ hj oq sgq sgv hE n σ b t0 p3 e_q3).1
      have hM10004 : p.2.2.1 ≤ p3.2.2.1 ∧ p.2.2.2 ≤ p3.2.2.2 := hM4
      have h := cd_inl h
      refine hp_callVv (As := [.int t0]) (rest := []) cx hw ((kc_X4_need l D cA E _ ad _ hj oq sgq sgv hE n σ b t0 p3 e_q3).2) (cwV 1 cx.2.2.2.2.2.1 (cd_giV cm_666 cm_667 cm_668 cm_663 cm_669) rfl rfl rfl hdc_X4_need ⟨Nat.le_of_ble_eq_true rfl, Nat.le_of_ble_eq_true rfl⟩) (cd_atO hj (by decide) (by decide)) rfl rfl hl.1 rfl (Nat.le_of_ble_eq_true rfl) dX4_takePattern_17 ⟨by (try dsimp only); omega, by (try dsimp only); omega⟩ (fun u H locs hp hw => ?_)
      obtain ⟨ca, hj, rfl⟩ := hp
      refine W.widen (k := b0.1 - p3.2.2.1) (n := b0.2 - p3.2.2.2) (by omega) (by omega) ?_
      refine lv_iload_n cx.1 cx.2.1 dX4_takePattern_20 rfl (lv_at hl 1 rfl) ?_
      refine lv_if_eq (tgt := 46) cx.1 cx.2.1 dX4_takePattern_21 (by decide) (fun c21 => ?_) (fun c21 => ?_)
      · have h := md_ip c21 h
        exact J46 _ hj p3.2.1 (p3.2.2) _ _ _ (by omega) (by omega) (by omega) (by omega) h hw (lv_sub hl [0] rfl)
      · have h := md_in c21 h
        refine lv_aload_n cx.1 cx.2.1 dX4_takePattern_24 rfl (lv_at hl 0 rfl) ?_
        refine cd_gO (o2 := 10) (e2 := 0) (o := 4) (k := 0) (f := 128) hj cx hw hic4 rfl ⟨by decide, rfl, by decide, rfl⟩ rfl (by decide) ⟨rfl, rfl⟩ (List.mem_cons_of_mem _ cm_658) dX4_takePattern_25 ?_
        obtain ⟨p5, e_p5, h⟩ := md_ob h
        refine hp_callVi (As := []) (rest := []) cx hw (kc_X10_hasTail l D cA E _ ad _ hj oq sgq sgv hE n p3.2.1  p5 e_p5) (cwV 0 cx.2.2.2.2.2.1 (cd_giV cm_678 cm_679 cm_680 cm_301 cm_681) rfl rfl rfl hdc_X10_hasTail ⟨Nat.le_of_ble_eq_true rfl, Nat.le_of_ble_eq_true rfl⟩) (cd_atO hj (by decide) (by decide)) rfl rfl hl.1 rfl (Nat.le_of_ble_eq_true rfl) dX4_takePattern_28 ⟨by (try dsimp only); omega, by (try dsimp only); omega⟩ (fun r u H locs hp hw => ?_)
        obtain ⟨rfl, ca, hj, rfl⟩ := hp
        refine lv_if_eq (tgt := 46) cx.1 cx.2.1 dX4_takePattern_31 (by decide) (fun c31 => ?_) (fun c31 => ?_)
        · have h := md_ip c31 h
          exact J46 _ hj p5.2 (p3.2.2) _ _ _ (by omega) (by omega) (by omega) (by omega) h hw (lv_sub hl [0] rfl)
        · have h := md_in c31 h
          refine lv_aload_n cx.1 cx.2.1 dX4_takePattern_34 rfl (lv_at hl 0 rfl) ?_
          refine lv_iconst (v := 5) cx.1 cx.2.1 dX4_takePattern_35 (by decide) ?_
          refine lv_aload_n cx.1 cx.2.1 dX4_takePattern_36 rfl (lv_at hl 0 rfl) ?_
          refine cd_gO (o2 := 10) (e2 := 0) (o := 4) (k := 0) (f := 128) hj cx hw hic4 rfl ⟨by decide, rfl, by decide, rfl⟩ rfl (by decide) ⟨rfl, rfl⟩ (List.mem_cons_of_mem _ cm_658) dX4_takePattern_37 ?_
          refine cd_gI (o := 10) (k := 9) (f := 329) hj cx hw hic10 rfl ⟨by decide, rfl, by decide, rfl⟩ rfl (by decide) (List.mem_cons_of_mem _ cm_659) dX4_takePattern_40 ?_
          obtain ⟨q6, e_q6, h⟩ := md_ob h
          obtain ⟨hm7, hn7, h⟩ := cd_cks h
          have hM7 : p.2.2.1 ≤ (Sum.elim (fun (p : Int32 × cd_S × cd_B) => p.2.2) (fun (t : cd_S × cd_B) => t.2) q6).1 ∧ p.2.2.2 ≤ (Sum.elim (fun (p : Int32 × cd_S × cd_B) => p.2.2) (fun (t : cd_S × cd_B) => t.2) q6).2 := ⟨hm7, hn7⟩
          cases q6 with
          | inr t6 =>
            exact nomatch Option.some.inj h
          | inl p6 =>
            have hle6 := (kc_X4_refuse l D cA E sz ad _ hj oq sgq sgv hE n p5.2 (p3.2.2) (5 : Int32) ((cI p5.2 329 0)) p6 e_q6).1
            have hM10007 : p.2.2.1 ≤ p6.2.2.1 ∧ p.2.2.2 ≤ p6.2.2.2 := hM7
            have h := cd_inl h
            refine hp_callVv (As := [.int 5, .int (cI p5.2 329 0)]) (rest := []) cx hw ((kc_X4_refuse l D cA E _ ad _ hj oq sgq sgv hE n p5.2 (p3.2.2) (5 : Int32) ((cI p5.2 329 0)) p6 e_q6).2) (cwV 2 cx.2.2.2.2.2.1 (cd_giV cm_660 cm_661 cm_662 cm_663 cm_664) rfl rfl rfl hdc_X4_refuse ⟨Nat.le_of_ble_eq_true rfl, Nat.le_of_ble_eq_true rfl⟩) (cd_atO hj (by decide) (by decide)) rfl rfl hl.1 rfl (Nat.le_of_ble_eq_true rfl) dX4_takePattern_43 ⟨by (try dsimp only); omega, by (try dsimp only); omega⟩ (fun u H locs hp hw => ?_)
            obtain ⟨ca, hj, rfl⟩ := hp
            refine W.widen (k := b0.1 - p6.2.2.1) (n := b0.2 - p6.2.2.2) (by omega) (by omega) ?_
            exact J46 _ hj p6.2.1 (p6.2.2) _ _ _ (by omega) (by omega) (by omega) (by omega) h hw (lv_sub hl [0] rfl)
  refine lv_aload_n cx.1 cx.2.1 dX4_takePattern_0 rfl (lv_at hl 0 rfl) ?_
  refine lv_aload_n cx.1 cx.2.1 dX4_takePattern_1 rfl (lv_at hl 0 rfl) ?_
  refine cd_gO (o2 := 10) (e2 := 0) (o := 4) (k := 0) (f := 128) hj cx hw hic4 rfl ⟨by decide, rfl, by decide, rfl⟩ rfl (by decide) ⟨rfl, rfl⟩ (List.mem_cons_of_mem _ cm_658) dX4_takePattern_2 ?_
  refine cd_gI (o := 10) (k := 8) (f := 328) hj cx hw hic10 rfl ⟨by decide, rfl, by decide, rfl⟩ rfl (by decide) (List.mem_cons_of_mem _ cm_665) dX4_takePattern_5 ?_
  refine lv_iconst (v := 4) cx.1 cx.2.1 dX4_takePattern_8 (by decide) ?_
  refine lv_icmp_ne (tgt := 16) cx.1 cx.2.1 dX4_takePattern_9 (by decide) (fun c9 => ?_) (fun c9 => ?_)
  · have h := md_in c9 h
    refine lv_iconst (v := 0) cx.1 cx.2.1 dX4_takePattern_16 (by decide) ?_
    exact J17 _ hj σ0 b0 a1 0 _ _ _ (by omega) (by omega) (by omega) (by omega) h hw (lv_sub hl [0, 1] rfl)
  · have h := md_ip c9 h
    refine lv_iconst (v := 1) cx.1 cx.2.1 dX4_takePattern_12 (by decide) ?_
    refine lv_goto (tgt := 17) cx.1 cx.2.1 dX4_takePattern_13 (by decide) ?_
    exact J17 _ hj σ0 b0 a1 1 _ _ _ (by omega) (by omega) (by omega) (by omega) h hw (lv_sub hl [0, 1] rfl)
set_option maxHeartbeats 4000000 in
set_option maxRecDepth 100000 in
theorem kc_X4_readRight (l : Launch) (D : va_G) (cA : Nat → ClassId) (E : hp_N) (sz : Nat) (ad : Nat → Nat → Nat) (ca0 : Nat → Nat) (hj : cd_inj ad ca0) (oq sgq sgv : Nat) (hE : cd_E E oq sgq sgv) (n : Nat) (σ0 : cd_S) (b0 : cd_B) (a1 : Int32) (a2 : Int32) (p : (Int32 × cd_S × cd_B)) (h : f_X4_readRight n σ0 b0 a1 a2 = some (Sum.inl p)) : (p.2.2.1 ≤ b0.1 ∧ p.2.2.2 ≤ b0.2) ∧ Met l yX4_readRight (Cond.code yX4_readRight cX4_readRight 3 none :: v_CLS) ({ frames := 15, cells := b0.1 - p.2.2.1, slots := b0.2 - p.2.2.2, locals := 264 }) (hp_Pc D vwCl (hp_Tl cA) E sz (cd_pic cA ad ca0 σ0) [.ref (ad 4 0), .int a1, .int a2]) (hp_Qv D vwCl (hp_Tl cA) sz (cd_pic cA ad ca0 σ0) (fun u => ∃ ca1, cd_inj ad ca1 ∧ u = cd_pic cA ad ca1 p.2.1)) (b0.1 - p.2.2.1) (b0.2 - p.2.2.2) (hp_A (cd_pic cA ad ca0 σ0) sz) := by
  obtain ⟨hm0, hn0, h⟩ := cd_cks h
  have hM0 : p.2.2.1 ≤ b0.1 ∧ p.2.2.2 ≤ b0.2 := ⟨hm0, hn0⟩
  refine ⟨hM0, ?_⟩
  refine hp_ofW (cc := cX4_readRight) (maxL := 3) (ret := none) (by decide) rfl (Nat.le_of_ble_eq_true rfl) ?_
  intro pp ee ss mm bb mt cd ls cx hsz hw hl
  have hl : lv_has ls 3 [(0, .ref (ad 4 0)), (1, .int a1), (2, .int a2)] := hl
  refine W.widen (k := b0.1 - b0.1) (n := b0.2 - b0.2) (Nat.zero_le _) (Nat.zero_le _) ?_
  have J16 : ∀ (ca : Nat → Nat) (hj : cd_inj ad ca) (σ : cd_S) (b : cd_B) (l2 : Int32) (t0 : Int32) (H : Heap) (locs : List Loc) (ls : Array Slot), b.1 ≤ b0.1 → b.2 ≤ b0.2 → p.2.2.1 ≤ b.1 → p.2.2.2 ≤ b.2 → f_X4_readRight_J16 n σ b l2 t0 = some (Sum.inl p) → hp_w D vwCl (hp_Tl cA) E (hp_A (cd_pic cA ad ca0 σ0) sz) ss H locs (cd_pic cA ad ca σ) → lv_has ls 3 [(0, .ref (ad 4 0)), (2, .int l2)] → W pp l ee ({ frames := 15, cells := b0.1 - p.2.2.1, slots := b0.2 - p.2.2.2, locals := 264 }) ss mm [.ref (ad 4 0), .int a1, .int a2].toArray bb mt cd H locs (b0.1 - b.1) (b0.2 - b.2) (MQ bb (hp_Qv D vwCl (hp_Tl cA) sz (cd_pic cA ad ca0 σ0) (fun u => ∃ ca1, cd_inj ad ca1 ∧ u = cd_pic cA ad ca1 p.2.1)) [.ref (ad 4 0), .int a1, .int a2].toArray ss (b0.1 - p.2.2.1) (b0.2 - p.2.2.2) (hp_A (cd_pic cA ad ca0 σ0) sz)) (F0 mm 16 ls [.int t0, .ref (ad 4 0)]) := by
    intro ca hj σ b l2 t0 H locs ls hb1 hb2 hf1 hf2 h hw hl
    obtain ⟨q1, e_q1, h⟩ := md_ob h
    obtain ⟨hm2, hn2, h⟩ := cd_cks h
    have hM2 : p.2.2.1 ≤ (Sum.elim (fun (p : Int32 × cd_S × cd_B) => p.2.2) (fun (t : cd_S × cd_B) => t.2) q1).1 ∧ p.2.2.2 ≤ (Sum.elim (fun (p : Int32 × cd_S × cd_B) => p.2.2) (fun (t : cd_S × cd_B) => t.2) q1).2 := ⟨hm2, hn2⟩
    cases q1 with
    | inr t1 =>
      exact nomatch Option.some.inj h
    | inl p1 =>
      have hle1 := (kc_X4_room l D cA E sz ad _ hj oq sgq sgv hE n σ b t0 p1 e_q1).1
      have hM10002 : p.2.2.1 ≤ p1.2.2.1 ∧ p.2.2.2 ≤ p1.2.2.2 := hM2
      have h := cd_inl h
      refine hp_callVv (As := [.int t0]) (rest := []) cx hw ((kc_X4_room l D cA E _ ad _ hj oq sgq sgv hE n σ b t0 p1 e_q1).2) (cwV 1 cx.2.2.2.2.2.1 (cd_giV cm_691 cm_692 cm_693 cm_663 cm_694) rfl rfl rfl hdc_X4_room ⟨Nat.le_of_ble_eq_true rfl, Nat.le_of_ble_eq_true rfl⟩) (cd_atO hj (by decide) (by decide)) rfl rfl hl.1 rfl (Nat.le_of_ble_eq_true rfl) dX4_readRight_16 ⟨by (try dsimp only); omega, by (try dsimp only); omega⟩ (fun u H locs hp hw => ?_)
      obtain ⟨ca, hj, rfl⟩ := hp
      refine W.widen (k := b0.1 - p1.2.2.1) (n := b0.2 - p1.2.2.2) (by omega) (by omega) ?_
      refine lv_aload_n cx.1 cx.2.1 dX4_readRight_19 rfl (lv_at hl 0 rfl) ?_
      refine cd_gO (o2 := 5) (e2 := 193) (o := 4) (k := 3) (f := 131) hj cx hw hic4 rfl ⟨by decide, rfl, by decide, rfl⟩ rfl (by decide) ⟨rfl, rfl⟩ (List.mem_cons_of_mem _ cm_682) dX4_readRight_20 ?_
      refine lv_aload_n cx.1 cx.2.1 dX4_readRight_23 rfl (lv_at hl 0 rfl) ?_
      refine cd_gO (o2 := 10) (e2 := 0) (o := 4) (k := 0) (f := 128) hj cx hw hic4 rfl ⟨by decide, rfl, by decide, rfl⟩ rfl (by decide) ⟨rfl, rfl⟩ (List.mem_cons_of_mem _ cm_658) dX4_readRight_24 ?_
      refine cd_gJ (o := 10) (k := 10) (f := 330) hj cx hw hic10 rfl ⟨by decide, rfl, by decide, rfl⟩ rfl (by decide) (List.mem_cons_of_mem _ cm_695) dX4_readRight_27 ?_
      obtain ⟨σ3, e_σ3, h⟩ := md_ob h
      refine cd_pJ (o := 5) (k := 0) (f := 160) hj cx hw hic5 rfl ⟨by decide, rfl, by decide, rfl⟩ tyX5_ok nmX5 rfl (by decide) rfl (List.mem_cons_of_mem _ cm_696) rfl e_σ3 dX4_readRight_30 (fun H locs hw => ?_)
      refine lv_aload_n cx.1 cx.2.1 dX4_readRight_33 rfl (lv_at hl 0 rfl) ?_
      refine cd_gO (o2 := 10) (e2 := 0) (o := 4) (k := 0) (f := 128) hj cx hw hic4 rfl ⟨by decide, rfl, by decide, rfl⟩ rfl (by decide) ⟨rfl, rfl⟩ (List.mem_cons_of_mem _ cm_658) dX4_readRight_34 ?_
      obtain ⟨p4, e_p4, h⟩ := md_ob h
      refine hp_callVv (As := []) (rest := []) cx hw (kc_X10_advance l D cA E _ ad _ hj oq sgq sgv hE n σ3  p4 e_p4) (cwV 0 cx.2.2.2.2.2.1 (cd_giV cm_670 cm_671 cm_672 cm_301 cm_673) rfl rfl rfl hdc_X10_advance ⟨Nat.le_of_ble_eq_true rfl, Nat.le_of_ble_eq_true rfl⟩) (cd_atO hj (by decide) (by decide)) rfl rfl hl.1 rfl (Nat.le_of_ble_eq_true rfl) dX4_readRight_37 ⟨by (try dsimp only); omega, by (try dsimp only); omega⟩ (fun u H locs hp hw => ?_)
      obtain ⟨ca, hj, rfl⟩ := hp
      refine lv_aload_n cx.1 cx.2.1 dX4_readRight_40 rfl (lv_at hl 0 rfl) ?_
      refine lv_iconst (v := 0) cx.1 cx.2.1 dX4_readRight_41 (by decide) ?_
      obtain ⟨q5, e_q5, h⟩ := md_ob h
      obtain ⟨hm6, hn6, h⟩ := cd_cks h
      have hM6 : p.2.2.1 ≤ (Sum.elim (fun (p : Int32 × cd_S × cd_B) => p.2.2) (fun (t : cd_S × cd_B) => t.2) q5).1 ∧ p.2.2.2 ≤ (Sum.elim (fun (p : Int32 × cd_S × cd_B) => p.2.2) (fun (t : cd_S × cd_B) => t.2) q5).2 := ⟨hm6, hn6⟩
      cases q5 with
      | inr t5 =>
        exact nomatch Option.some.inj h
      | inl p5 =>
        have hle5 := (kc_X4_takePattern l D cA E sz ad _ hj oq sgq sgv hE n p4.2 (p1.2.2) (0 : Int32) p5 e_q5).1
        have hM10006 : p.2.2.1 ≤ p5.2.2.1 ∧ p.2.2.2 ≤ p5.2.2.2 := hM6
        have h := cd_inl h
        refine hp_callVv (As := [.int 0]) (rest := []) cx hw ((kc_X4_takePattern l D cA E _ ad _ hj oq sgq sgv hE n p4.2 (p1.2.2) (0 : Int32) p5 e_q5).2) (cwV 1 cx.2.2.2.2.2.1 (cd_giV cm_697 cm_698 cm_699 cm_663 cm_700) rfl rfl rfl hdc_X4_takePattern ⟨Nat.le_of_ble_eq_true rfl, Nat.le_of_ble_eq_true rfl⟩) (cd_atO hj (by decide) (by decide)) rfl rfl hl.1 rfl (Nat.le_of_ble_eq_true rfl) dX4_readRight_42 ⟨by (try dsimp only); omega, by (try dsimp only); omega⟩ (fun u H locs hp hw => ?_)
        obtain ⟨ca, hj, rfl⟩ := hp
        refine W.widen (k := b0.1 - p5.2.2.1) (n := b0.2 - p5.2.2.2) (by omega) (by omega) ?_
        refine lv_iload_n cx.1 cx.2.1 dX4_readRight_45 rfl (lv_at hl 1 rfl) ?_
        refine lv_if_eq (tgt := 63) cx.1 cx.2.1 dX4_readRight_46 (by decide) (fun c46 => ?_) (fun c46 => ?_)
        · have h := md_ip c46 h
          refine lv_aload_n cx.1 cx.2.1 dX4_readRight_63 rfl (lv_at hl 0 rfl) ?_
          refine cd_gO (o2 := 3) (e2 := 0) (o := 4) (k := 2) (f := 130) hj cx hw hic4 rfl ⟨by decide, rfl, by decide, rfl⟩ rfl (by decide) ⟨rfl, rfl⟩ (List.mem_cons_of_mem _ cm_701) dX4_readRight_64 ?_
          refine lv_aload_n cx.1 cx.2.1 dX4_readRight_67 rfl (lv_at hl 0 rfl) ?_
          refine cd_gO (o2 := 5) (e2 := 193) (o := 4) (k := 3) (f := 131) hj cx hw hic4 rfl ⟨by decide, rfl, by decide, rfl⟩ rfl (by decide) ⟨rfl, rfl⟩ (List.mem_cons_of_mem _ cm_682) dX4_readRight_68 ?_
          obtain ⟨p7, e_p7, h⟩ := md_ob h
          refine hp_callVv (As := [.ref (ad 5 193)]) (rest := []) cx hw (kc_X3_addGrantRight l D cA E _ ad _ hj oq sgq sgv hE n p5.2.1 193 (by decide) p7 e_p7) (cwV 1 cx.2.2.2.2.2.1 (cd_giV cm_702 cm_703 cm_704 cm_332 cm_705) rfl rfl rfl hdc_X3_addGrantRight ⟨Nat.le_of_ble_eq_true rfl, Nat.le_of_ble_eq_true rfl⟩) (cd_atO hj (by decide) (by decide)) rfl rfl hl.1 rfl (Nat.le_of_ble_eq_true rfl) dX4_readRight_71 ⟨by (try dsimp only); omega, by (try dsimp only); omega⟩ (fun u H locs hp hw => ?_)
          obtain ⟨ca, hj, rfl⟩ := hp
          exact hp_vret cx hw ((cd_retb hj (congrArg some (Sum.inl.inj (Option.some.inj h)))).2) dX4_readRight_74 (cd_le1 (congrArg some (Sum.inl.inj (Option.some.inj h)))) (cd_le2 (congrArg some (Sum.inl.inj (Option.some.inj h))))
        · have h := md_in c46 h
          refine lv_aload_n cx.1 cx.2.1 dX4_readRight_49 rfl (lv_at hl 0 rfl) ?_
          refine cd_gO (o2 := 3) (e2 := 0) (o := 4) (k := 2) (f := 130) hj cx hw hic4 rfl ⟨by decide, rfl, by decide, rfl⟩ rfl (by decide) ⟨rfl, rfl⟩ (List.mem_cons_of_mem _ cm_701) dX4_readRight_50 ?_
          refine lv_aload_n cx.1 cx.2.1 dX4_readRight_53 rfl (lv_at hl 0 rfl) ?_
          refine cd_gO (o2 := 5) (e2 := 193) (o := 4) (k := 3) (f := 131) hj cx hw hic4 rfl ⟨by decide, rfl, by decide, rfl⟩ rfl (by decide) ⟨rfl, rfl⟩ (List.mem_cons_of_mem _ cm_682) dX4_readRight_54 ?_
          obtain ⟨p8, e_p8, h⟩ := md_ob h
          refine hp_callVv (As := [.ref (ad 5 193)]) (rest := []) cx hw (kc_X3_addLimitRight l D cA E _ ad _ hj oq sgq sgv hE n p5.2.1 193 (by decide) p8 e_p8) (cwV 1 cx.2.2.2.2.2.1 (cd_giV cm_706 cm_707 cm_708 cm_332 cm_709) rfl rfl rfl hdc_X3_addLimitRight ⟨Nat.le_of_ble_eq_true rfl, Nat.le_of_ble_eq_true rfl⟩) (cd_atO hj (by decide) (by decide)) rfl rfl hl.1 rfl (Nat.le_of_ble_eq_true rfl) dX4_readRight_57 ⟨by (try dsimp only); omega, by (try dsimp only); omega⟩ (fun u H locs hp hw => ?_)
          obtain ⟨ca, hj, rfl⟩ := hp
          refine lv_goto (tgt := 74) cx.1 cx.2.1 dX4_readRight_60 (by decide) ?_
          exact hp_vret cx hw ((cd_retb hj (congrArg some (Sum.inl.inj (Option.some.inj h)))).2) dX4_readRight_74 (cd_le1 (congrArg some (Sum.inl.inj (Option.some.inj h)))) (cd_le2 (congrArg some (Sum.inl.inj (Option.some.inj h))))
  refine lv_aload_n cx.1 cx.2.1 dX4_readRight_0 rfl (lv_at hl 0 rfl) ?_
  obtain ⟨q9, e_q9, h⟩ := md_ob h
  obtain ⟨hm10, hn10, h⟩ := cd_cks h
  have hM10 : p.2.2.1 ≤ (Sum.elim (fun (p : Int32 × cd_S × cd_B) => p.2.2) (fun (t : cd_S × cd_B) => t.2) q9).1 ∧ p.2.2.2 ≤ (Sum.elim (fun (p : Int32 × cd_S × cd_B) => p.2.2) (fun (t : cd_S × cd_B) => t.2) q9).2 := ⟨hm10, hn10⟩
  cases q9 with
  | inr t9 =>
    exact nomatch Option.some.inj h
  | inl p9 =>
    have hle9 := (kc_X4_needName l D cA E sz ad _ hj oq sgq sgv hE n σ0 b0  p9 e_q9).1
    have hM10010 : p.2.2.1 ≤ p9.2.2.1 ∧ p.2.2.2 ≤ p9.2.2.2 := hM10
    have h := cd_inl h
    refine hp_callVv (As := []) (rest := []) cx hw ((kc_X4_needName l D cA E _ ad _ hj oq sgq sgv hE n σ0 b0  p9 e_q9).2) (cwV 0 cx.2.2.2.2.2.1 (cd_giV cm_687 cm_688 cm_689 cm_663 cm_690) rfl rfl rfl hdc_X4_needName ⟨Nat.le_of_ble_eq_true rfl, Nat.le_of_ble_eq_true rfl⟩) (cd_atO hj (by decide) (by decide)) rfl rfl hl.1 rfl (Nat.le_of_ble_eq_true rfl) dX4_readRight_1 ⟨by (try dsimp only); omega, by (try dsimp only); omega⟩ (fun u H locs hp hw => ?_)
    obtain ⟨ca, hj, rfl⟩ := hp
    refine W.widen (k := b0.1 - p9.2.2.1) (n := b0.2 - p9.2.2.2) (by omega) (by omega) ?_
    refine lv_aload_n cx.1 cx.2.1 dX4_readRight_4 rfl (lv_at hl 0 rfl) ?_
    refine lv_iload_n cx.1 cx.2.1 dX4_readRight_5 rfl (lv_at hl 1 rfl) ?_
    refine lv_bipush (v := 8) cx.1 cx.2.1 dX4_readRight_6 (by decide) ?_
    refine lv_icmp_ge (tgt := 15) cx.1 cx.2.1 dX4_readRight_8 (by decide) (fun c8 => ?_) (fun c8 => ?_)
    · have h := md_ip c8 h
      refine lv_iconst (v := 0) cx.1 cx.2.1 dX4_readRight_15 (by decide) ?_
      exact J16 _ hj p9.2.1 (p9.2.2) a2 0 _ _ _ (by omega) (by omega) (by omega) (by omega) h hw (lv_sub hl [0, 2] rfl)
    · have h := md_in c8 h
      refine lv_iconst (v := 1) cx.1 cx.2.1 dX4_readRight_11 (by decide) ?_
      refine lv_goto (tgt := 16) cx.1 cx.2.1 dX4_readRight_12 (by decide) ?_
      exact J16 _ hj p9.2.1 (p9.2.2) a2 1 _ _ _ (by omega) (by omega) (by omega) (by omega) h hw (lv_sub hl [0, 2] rfl)
set_option maxHeartbeats 4000000 in
set_option maxRecDepth 100000 in
theorem kc_X4_readGrant (l : Launch) (D : va_G) (cA : Nat → ClassId) (E : hp_N) (sz : Nat) (ad : Nat → Nat → Nat) (ca0 : Nat → Nat) (hj : cd_inj ad ca0) (oq sgq sgv : Nat) (hE : cd_E E oq sgq sgv) (n : Nat) (σ0 : cd_S) (b0 : cd_B) (p : (Int32 × cd_S × cd_B)) (h : f_X4_readGrant n σ0 b0 = some (Sum.inl p)) : (p.2.2.1 ≤ b0.1 ∧ p.2.2.2 ≤ b0.2) ∧ Met l yX4_readGrant (Cond.code yX4_readGrant cX4_readGrant 2 none :: v_CLS) ({ frames := 16, cells := b0.1 - p.2.2.1, slots := b0.2 - p.2.2.2, locals := 286 }) (hp_Pc D vwCl (hp_Tl cA) E sz (cd_pic cA ad ca0 σ0) [.ref (ad 4 0)]) (hp_Qv D vwCl (hp_Tl cA) sz (cd_pic cA ad ca0 σ0) (fun u => ∃ ca1, cd_inj ad ca1 ∧ u = cd_pic cA ad ca1 p.2.1)) (b0.1 - p.2.2.1) (b0.2 - p.2.2.2) (hp_A (cd_pic cA ad ca0 σ0) sz) := by
  obtain ⟨hm0, hn0, h⟩ := cd_cks h
  have hM0 : p.2.2.1 ≤ b0.1 ∧ p.2.2.2 ≤ b0.2 := ⟨hm0, hn0⟩
  refine ⟨hM0, ?_⟩
  refine hp_ofW (cc := cX4_readGrant) (maxL := 2) (ret := none) (by decide) rfl (Nat.le_of_ble_eq_true rfl) ?_
  intro pp ee ss mm bb mt cd ls cx hsz hw hl
  have hl : lv_has ls 2 [(0, .ref (ad 4 0))] := hl
  refine W.widen (k := b0.1 - b0.1) (n := b0.2 - b0.2) (Nat.zero_le _) (Nat.zero_le _) ?_
  refine lv_aload_n cx.1 cx.2.1 dX4_readGrant_0 rfl (lv_at hl 0 rfl) ?_
  refine cd_gO (o2 := 10) (e2 := 0) (o := 4) (k := 0) (f := 128) hj cx hw hic4 rfl ⟨by decide, rfl, by decide, rfl⟩ rfl (by decide) ⟨rfl, rfl⟩ (List.mem_cons_of_mem _ cm_658) dX4_readGrant_1 ?_
  obtain ⟨p1, e_p1, h⟩ := md_ob h
  refine hp_callVv (As := []) (rest := []) cx hw (kc_X10_advance l D cA E _ ad _ hj oq sgq sgv hE n σ0  p1 e_p1) (cwV 0 cx.2.2.2.2.2.1 (cd_giV cm_670 cm_671 cm_672 cm_301 cm_673) rfl rfl rfl hdc_X10_advance ⟨Nat.le_of_ble_eq_true rfl, Nat.le_of_ble_eq_true rfl⟩) (cd_atO hj (by decide) (by decide)) rfl rfl hl.1 rfl (Nat.le_of_ble_eq_true rfl) dX4_readGrant_4 ⟨by (try dsimp only); omega, by (try dsimp only); omega⟩ (fun u H locs hp hw => ?_)
  obtain ⟨ca, hj, rfl⟩ := hp
  refine lv_aload_n cx.1 cx.2.1 dX4_readGrant_7 rfl (lv_at hl 0 rfl) ?_
  refine lv_iconst (v := 0) cx.1 cx.2.1 dX4_readGrant_8 (by decide) ?_
  obtain ⟨q2, e_q2, h⟩ := md_ob h
  obtain ⟨hm3, hn3, h⟩ := cd_cks h
  have hM3 : p.2.2.1 ≤ (Sum.elim (fun (p : Int32 × cd_S × cd_B) => p.2.2) (fun (t : cd_S × cd_B) => t.2) q2).1 ∧ p.2.2.2 ≤ (Sum.elim (fun (p : Int32 × cd_S × cd_B) => p.2.2) (fun (t : cd_S × cd_B) => t.2) q2).2 := ⟨hm3, hn3⟩
  cases q2 with
  | inr t2 =>
    exact nomatch Option.some.inj h
  | inl p2 =>
    have hle2 := (kc_X4_takePattern l D cA E sz ad _ hj oq sgq sgv hE n p1.2 b0 (0 : Int32) p2 e_q2).1
    have hM10003 : p.2.2.1 ≤ p2.2.2.1 ∧ p.2.2.2 ≤ p2.2.2.2 := hM3
    have h := cd_inl h
    refine hp_callVv (As := [.int 0]) (rest := []) cx hw ((kc_X4_takePattern l D cA E _ ad _ hj oq sgq sgv hE n p1.2 b0 (0 : Int32) p2 e_q2).2) (cwV 1 cx.2.2.2.2.2.1 (cd_giV cm_697 cm_698 cm_699 cm_663 cm_700) rfl rfl rfl hdc_X4_takePattern ⟨Nat.le_of_ble_eq_true rfl, Nat.le_of_ble_eq_true rfl⟩) (cd_atO hj (by decide) (by decide)) rfl rfl hl.1 rfl (Nat.le_of_ble_eq_true rfl) dX4_readGrant_9 ⟨by (try dsimp only); omega, by (try dsimp only); omega⟩ (fun u H locs hp hw => ?_)
    obtain ⟨ca, hj, rfl⟩ := hp
    refine W.widen (k := b0.1 - p2.2.2.1) (n := b0.2 - p2.2.2.2) (by omega) (by omega) ?_
    refine lv_aload_n cx.1 cx.2.1 dX4_readGrant_12 rfl (lv_at hl 0 rfl) ?_
    refine cd_gO (o2 := 3) (e2 := 0) (o := 4) (k := 2) (f := 130) hj cx hw hic4 rfl ⟨by decide, rfl, by decide, rfl⟩ rfl (by decide) ⟨rfl, rfl⟩ (List.mem_cons_of_mem _ cm_701) dX4_readGrant_13 ?_
    refine lv_aload_n cx.1 cx.2.1 dX4_readGrant_16 rfl (lv_at hl 0 rfl) ?_
    refine cd_gO (o2 := 5) (e2 := 193) (o := 4) (k := 3) (f := 131) hj cx hw hic4 rfl ⟨by decide, rfl, by decide, rfl⟩ rfl (by decide) ⟨rfl, rfl⟩ (List.mem_cons_of_mem _ cm_682) dX4_readGrant_17 ?_
    obtain ⟨p4, e_p4, h⟩ := md_ob h
    refine hp_callVv (As := [.ref (ad 5 193)]) (rest := []) cx hw (kc_X3_addGrant l D cA E _ ad _ hj oq sgq sgv hE n p2.2.1 193 (by decide) p4 e_p4) (cwV 1 cx.2.2.2.2.2.1 (cd_giV cm_710 cm_711 cm_712 cm_332 cm_713) rfl rfl rfl hdc_X3_addGrant ⟨Nat.le_of_ble_eq_true rfl, Nat.le_of_ble_eq_true rfl⟩) (cd_atO hj (by decide) (by decide)) rfl rfl hl.1 rfl (Nat.le_of_ble_eq_true rfl) dX4_readGrant_20 ⟨by (try dsimp only); omega, by (try dsimp only); omega⟩ (fun u H locs hp hw => ?_)
    obtain ⟨ca, hj, rfl⟩ := hp
    refine lv_aload_n cx.1 cx.2.1 dX4_readGrant_23 rfl (lv_at hl 0 rfl) ?_
    refine lv_bipush (v := 123) cx.1 cx.2.1 dX4_readGrant_24 (by decide) ?_
    obtain ⟨q5, e_q5, h⟩ := md_ob h
    obtain ⟨hm6, hn6, h⟩ := cd_cks h
    have hM6 : p.2.2.1 ≤ (Sum.elim (fun (p : Int32 × cd_S × cd_B) => p.2.2) (fun (t : cd_S × cd_B) => t.2) q5).1 ∧ p.2.2.2 ≤ (Sum.elim (fun (p : Int32 × cd_S × cd_B) => p.2.2) (fun (t : cd_S × cd_B) => t.2) q5).2 := ⟨hm6, hn6⟩
    cases q5 with
    | inr t5 =>
      exact nomatch Option.some.inj h
    | inl p5 =>
      have hle5 := (kc_X4_pass l D cA E sz ad _ hj oq sgq sgv hE n p4.2 (p2.2.2) (123 : Int32) p5 e_q5).1
      have hM10006 : p.2.2.1 ≤ p5.2.2.1 ∧ p.2.2.2 ≤ p5.2.2.2 := hM6
      have h := cd_inl h
      refine hp_callVv (As := [.int 123]) (rest := []) cx hw ((kc_X4_pass l D cA E _ ad _ hj oq sgq sgv hE n p4.2 (p2.2.2) (123 : Int32) p5 e_q5).2) (cwV 1 cx.2.2.2.2.2.1 (cd_giV cm_714 cm_715 cm_716 cm_663 cm_717) rfl rfl rfl hdc_X4_pass ⟨Nat.le_of_ble_eq_true rfl, Nat.le_of_ble_eq_true rfl⟩) (cd_atO hj (by decide) (by decide)) rfl rfl hl.1 rfl (Nat.le_of_ble_eq_true rfl) dX4_readGrant_26 ⟨by (try dsimp only); omega, by (try dsimp only); omega⟩ (fun u H locs hp hw => ?_)
      obtain ⟨ca, hj, rfl⟩ := hp
      refine W.widen (k := b0.1 - p5.2.2.1) (n := b0.2 - p5.2.2.2) (by omega) (by omega) ?_
      refine lv_iconst (v := 0) cx.1 cx.2.1 dX4_readGrant_29 (by decide) ?_
      refine lv_istore_n (lv' := [(1, .int 0), (0, .ref (ad 4 0))]) cx.1 cx.2.1 dX4_readGrant_30 rfl hl (by decide) rfl (fun ls hl => ?_)
      have L31 : ∀ (j : Nat) (ca : Nat → Nat) (hj : cd_inj ad ca) (σ : cd_S) (b : cd_B) (l1 : Int32) (q : (((Int32 × cd_S × cd_B) ⊕ (cd_S × cd_B)) ⊕ (cd_S × cd_B × Int32))) (H : Heap) (locs : List Loc) (ls : Array Slot), b.1 ≤ b0.1 → b.2 ≤ b0.2 → p.2.2.1 ≤ b.1 → p.2.2.2 ≤ b.2 → p.2.2.1 ≤ (Sum.elim (fun (q : ((Int32 × cd_S × cd_B) ⊕ (cd_S × cd_B))) => Sum.elim (fun (p : (Int32 × cd_S × cd_B)) => p.2.2) (fun (t : cd_S × cd_B) => t.2) q) (fun (q : cd_S × cd_B × Int32) => q.2.1) q).1 → p.2.2.2 ≤ (Sum.elim (fun (q : ((Int32 × cd_S × cd_B) ⊕ (cd_S × cd_B))) => Sum.elim (fun (p : (Int32 × cd_S × cd_B)) => p.2.2) (fun (t : cd_S × cd_B) => t.2) q) (fun (q : cd_S × cd_B × Int32) => q.2.1) q).2 → f_X4_readGrant_L31 n j σ b l1 = some q → hp_w D vwCl (hp_Tl cA) E (hp_A (cd_pic cA ad ca0 σ0) sz) ss H locs (cd_pic cA ad ca σ) → lv_has ls 2 [(0, .ref (ad 4 0)), (1, .int l1)] → (∀ t, q = Sum.inr t → (∀ (ca : Nat → Nat) (hj : cd_inj ad ca) (H : Heap) (locs : List Loc) (ls : Array Slot), t.2.1.1 ≤ b0.1 → t.2.1.2 ≤ b0.2 → hp_w D vwCl (hp_Tl cA) E (hp_A (cd_pic cA ad ca0 σ0) sz) ss H locs (cd_pic cA ad ca t.1) → lv_has ls 2 [(0, .ref (ad 4 0))] → W pp l ee ({ frames := 16, cells := b0.1 - p.2.2.1, slots := b0.2 - p.2.2.2, locals := 286 }) ss mm [.ref (ad 4 0)].toArray bb mt cd H locs (b0.1 - t.2.1.1) (b0.2 - t.2.1.2) (MQ bb (hp_Qv D vwCl (hp_Tl cA) sz (cd_pic cA ad ca0 σ0) (fun u => ∃ ca1, cd_inj ad ca1 ∧ u = cd_pic cA ad ca1 p.2.1)) [.ref (ad 4 0)].toArray ss (b0.1 - p.2.2.1) (b0.2 - p.2.2.2) (hp_A (cd_pic cA ad ca0 σ0) sz)) (F0 mm 66 ls []))) → (∀ r, q = Sum.inl r → r = Sum.inl p) → W pp l ee ({ frames := 16, cells := b0.1 - p.2.2.1, slots := b0.2 - p.2.2.2, locals := 286 }) ss mm [.ref (ad 4 0)].toArray bb mt cd H locs (b0.1 - b.1) (b0.2 - b.2) (MQ bb (hp_Qv D vwCl (hp_Tl cA) sz (cd_pic cA ad ca0 σ0) (fun u => ∃ ca1, cd_inj ad ca1 ∧ u = cd_pic cA ad ca1 p.2.1)) [.ref (ad 4 0)].toArray ss (b0.1 - p.2.2.1) (b0.2 - p.2.2.2) (hp_A (cd_pic cA ad ca0 σ0) sz)) (F0 mm 31 ls []) := by
        intro j
        induction j with
        | zero => intro ca hj σ b l1 q H locs ls hb1 hb2 hf1 hf2 hq1 hq2 h; exact nomatch h
        | succ j ih =>
          intro ca hj σ b l1 q H locs ls hb1 hb2 hf1 hf2 hq1 hq2 h hw hl K KR
          unfold f_X4_readGrant_L31 at h
          refine lv_iload_n cx.1 cx.2.1 dX4_readGrant_31 rfl (lv_at hl 1 rfl) ?_
          refine lv_bipush (v := 8) cx.1 cx.2.1 dX4_readGrant_32 (by decide) ?_
          refine lv_icmp_gt (tgt := 66) cx.1 cx.2.1 dX4_readGrant_34 (by decide) (fun c34 => ?_) (fun c34 => ?_)
          · have h := md_ip c34 h
            exact K _ (Option.some.inj h).symm _ hj _ _ _ (by (try dsimp only); omega) (by (try dsimp only); omega) hw (lv_sub hl [0] rfl)
          · have h := md_in c34 h
            refine lv_aload_n cx.1 cx.2.1 dX4_readGrant_37 rfl (lv_at hl 0 rfl) ?_
            refine cd_gO (o2 := 10) (e2 := 0) (o := 4) (k := 0) (f := 128) hj cx hw hic4 rfl ⟨by decide, rfl, by decide, rfl⟩ rfl (by decide) ⟨rfl, rfl⟩ (List.mem_cons_of_mem _ cm_658) dX4_readGrant_38 ?_
            refine cd_gI (o := 10) (k := 8) (f := 328) hj cx hw hic10 rfl ⟨by decide, rfl, by decide, rfl⟩ rfl (by decide) (List.mem_cons_of_mem _ cm_665) dX4_readGrant_41 ?_
            refine lv_iconst (v := 2) cx.1 cx.2.1 dX4_readGrant_44 (by decide) ?_
            refine lv_icmp_ne (tgt := 66) cx.1 cx.2.1 dX4_readGrant_45 (by decide) (fun c45 => ?_) (fun c45 => ?_)
            · have h := md_in c45 h
              exact K _ (Option.some.inj h).symm _ hj _ _ _ (by (try dsimp only); omega) (by (try dsimp only); omega) hw (lv_sub hl [0] rfl)
            · have h := md_ip c45 h
              refine lv_aload_n cx.1 cx.2.1 dX4_readGrant_48 rfl (lv_at hl 0 rfl) ?_
              refine lv_iload_n cx.1 cx.2.1 dX4_readGrant_49 rfl (lv_at hl 1 rfl) ?_
              refine lv_iconst (v := 0) cx.1 cx.2.1 dX4_readGrant_50 (by decide) ?_
              obtain ⟨q7, e_q7, h⟩ := md_ob h
              obtain ⟨hm8, hn8, h⟩ := cd_cks h
              have hM8 : p.2.2.1 ≤ (Sum.elim (fun (p : Int32 × cd_S × cd_B) => p.2.2) (fun (t : cd_S × cd_B) => t.2) q7).1 ∧ p.2.2.2 ≤ (Sum.elim (fun (p : Int32 × cd_S × cd_B) => p.2.2) (fun (t : cd_S × cd_B) => t.2) q7).2 := ⟨Nat.le_trans hq1 hm8, Nat.le_trans hq2 hn8⟩
              cases q7 with
              | inr t7 =>
                exact nomatch KR _ (Option.some.inj h).symm
              | inl p7 =>
                have hle7 := (kc_X4_readRight l D cA E sz ad _ hj oq sgq sgv hE n σ b l1 (0 : Int32) p7 e_q7).1
                have hM10008 : p.2.2.1 ≤ p7.2.2.1 ∧ p.2.2.2 ≤ p7.2.2.2 := hM8
                have h := cd_inl h
                refine hp_callVv (As := [.int l1, .int 0]) (rest := []) cx hw ((kc_X4_readRight l D cA E _ ad _ hj oq sgq sgv hE n σ b l1 (0 : Int32) p7 e_q7).2) (cwV 2 cx.2.2.2.2.2.1 (cd_giV cm_718 cm_719 cm_720 cm_663 cm_721) rfl rfl rfl hdc_X4_readRight ⟨Nat.le_of_ble_eq_true rfl, Nat.le_of_ble_eq_true rfl⟩) (cd_atO hj (by decide) (by decide)) rfl rfl hl.1 rfl (Nat.le_of_ble_eq_true rfl) dX4_readGrant_51 ⟨by (try dsimp only); omega, by (try dsimp only); omega⟩ (fun u H locs hp hw => ?_)
                obtain ⟨ca, hj, rfl⟩ := hp
                refine W.widen (k := b0.1 - p7.2.2.1) (n := b0.2 - p7.2.2.2) (by omega) (by omega) ?_
                refine lv_aload_n cx.1 cx.2.1 dX4_readGrant_54 rfl (lv_at hl 0 rfl) ?_
                refine lv_bipush (v := 59) cx.1 cx.2.1 dX4_readGrant_55 (by decide) ?_
                obtain ⟨q9, e_q9, h⟩ := md_ob h
                obtain ⟨hm10, hn10, h⟩ := cd_cks h
                have hM10 : p.2.2.1 ≤ (Sum.elim (fun (p : Int32 × cd_S × cd_B) => p.2.2) (fun (t : cd_S × cd_B) => t.2) q9).1 ∧ p.2.2.2 ≤ (Sum.elim (fun (p : Int32 × cd_S × cd_B) => p.2.2) (fun (t : cd_S × cd_B) => t.2) q9).2 := ⟨Nat.le_trans hq1 hm10, Nat.le_trans hq2 hn10⟩
                cases q9 with
                | inr t9 =>
                  exact nomatch KR _ (Option.some.inj h).symm
                | inl p9 =>
                  have hle9 := (kc_X4_pass l D cA E sz ad _ hj oq sgq sgv hE n p7.2.1 (p7.2.2) (59 : Int32) p9 e_q9).1
                  have hM10010 : p.2.2.1 ≤ p9.2.2.1 ∧ p.2.2.2 ≤ p9.2.2.2 := hM10
                  have h := cd_inl h
                  refine hp_callVv (As := [.int 59]) (rest := []) cx hw ((kc_X4_pass l D cA E _ ad _ hj oq sgq sgv hE n p7.2.1 (p7.2.2) (59 : Int32) p9 e_q9).2) (cwV 1 cx.2.2.2.2.2.1 (cd_giV cm_714 cm_715 cm_716 cm_663 cm_717) rfl rfl rfl hdc_X4_pass ⟨Nat.le_of_ble_eq_true rfl, Nat.le_of_ble_eq_true rfl⟩) (cd_atO hj (by decide) (by decide)) rfl rfl hl.1 rfl (Nat.le_of_ble_eq_true rfl) dX4_readGrant_57 ⟨by (try dsimp only); omega, by (try dsimp only); omega⟩ (fun u H locs hp hw => ?_)
                  obtain ⟨ca, hj, rfl⟩ := hp
                  refine W.widen (k := b0.1 - p9.2.2.1) (n := b0.2 - p9.2.2.2) (by omega) (by omega) ?_
                  refine lv_iinc (v := (l1 + 1)) (lv' := [(1, .int (l1 + 1)), (0, .ref (ad 4 0))]) cx.1 cx.2.1 dX4_readGrant_60 hl (k := 1) rfl rfl (by decide) rfl (fun ls hl => ?_)
                  refine lv_goto (tgt := 31) cx.1 cx.2.1 dX4_readGrant_63 (by decide) ?_
                  exact ih _ hj p9.2.1 (p9.2.2) ((l1 + 1)) q _ _ _ (by omega) (by omega) (by omega) (by omega) hq1 hq2 h hw (lv_sub hl [1, 0] rfl) K KR
      obtain ⟨q11, e_q11, h⟩ := md_ob h
      obtain ⟨hm12, hn12, h⟩ := cd_cks h
      have hM12 : p.2.2.1 ≤ (Sum.elim (fun (q : ((Int32 × cd_S × cd_B) ⊕ (cd_S × cd_B))) => Sum.elim (fun (p : (Int32 × cd_S × cd_B)) => p.2.2) (fun (t : cd_S × cd_B) => t.2) q) (fun (q : cd_S × cd_B × Int32) => q.2.1) q11).1 ∧ p.2.2.2 ≤ (Sum.elim (fun (q : ((Int32 × cd_S × cd_B) ⊕ (cd_S × cd_B))) => Sum.elim (fun (p : (Int32 × cd_S × cd_B)) => p.2.2) (fun (t : cd_S × cd_B) => t.2) q) (fun (q : cd_S × cd_B × Int32) => q.2.1) q11).2 := ⟨hm12, hn12⟩
      refine L31 n _ hj p5.2.1 (p5.2.2) 0 q11 _ _ _ (by omega) (by omega) (by omega) (by omega) hM12.1 hM12.2 e_q11 hw (lv_sub hl [1, 0] rfl) (fun t11 hq11 ca hj H locs ls hb1 hb2 hw hl => ?_) (fun r hr => by subst hr; exact Option.some.inj h)
      subst hq11
      have h := md_inr h
      have hS12 : p.2.2.1 ≤ t11.2.1.1 ∧ p.2.2.2 ≤ t11.2.1.2 := hM12
      refine lv_aload_n cx.1 cx.2.1 dX4_readGrant_66 rfl (lv_at hl 0 rfl) ?_
      refine lv_bipush (v := 125) cx.1 cx.2.1 dX4_readGrant_67 (by decide) ?_
      obtain ⟨q13, e_q13, h⟩ := md_ob h
      obtain ⟨hm14, hn14, h⟩ := cd_cks h
      have hM14 : p.2.2.1 ≤ (Sum.elim (fun (p : Int32 × cd_S × cd_B) => p.2.2) (fun (t : cd_S × cd_B) => t.2) q13).1 ∧ p.2.2.2 ≤ (Sum.elim (fun (p : Int32 × cd_S × cd_B) => p.2.2) (fun (t : cd_S × cd_B) => t.2) q13).2 := ⟨hm14, hn14⟩
      cases q13 with
      | inr t13 =>
        exact nomatch Option.some.inj h
      | inl p13 =>
        have hle13 := (kc_X4_pass l D cA E sz ad _ hj oq sgq sgv hE n t11.1 (t11.2.1) (125 : Int32) p13 e_q13).1
        have hM10014 : p.2.2.1 ≤ p13.2.2.1 ∧ p.2.2.2 ≤ p13.2.2.2 := hM14
        have h := cd_inl h
        refine hp_callVv (As := [.int 125]) (rest := []) cx hw ((kc_X4_pass l D cA E _ ad _ hj oq sgq sgv hE n t11.1 (t11.2.1) (125 : Int32) p13 e_q13).2) (cwV 1 cx.2.2.2.2.2.1 (cd_giV cm_714 cm_715 cm_716 cm_663 cm_717) rfl rfl rfl hdc_X4_pass ⟨Nat.le_of_ble_eq_true rfl, Nat.le_of_ble_eq_true rfl⟩) (cd_atO hj (by decide) (by decide)) rfl rfl hl.1 rfl (Nat.le_of_ble_eq_true rfl) dX4_readGrant_69 ⟨by (try dsimp only); omega, by (try dsimp only); omega⟩ (fun u H locs hp hw => ?_)
        obtain ⟨ca, hj, rfl⟩ := hp
        refine W.widen (k := b0.1 - p13.2.2.1) (n := b0.2 - p13.2.2.2) (by omega) (by omega) ?_
        exact hp_vret cx hw ((cd_retb hj (congrArg some (Sum.inl.inj (Option.some.inj h)))).2) dX4_readGrant_72 (cd_le1 (congrArg some (Sum.inl.inj (Option.some.inj h)))) (cd_le2 (congrArg some (Sum.inl.inj (Option.some.inj h))))
set_option maxHeartbeats 4000000 in
set_option maxRecDepth 100000 in
theorem kc_X4_readGrants (l : Launch) (D : va_G) (cA : Nat → ClassId) (E : hp_N) (sz : Nat) (ad : Nat → Nat → Nat) (ca0 : Nat → Nat) (hj : cd_inj ad ca0) (oq sgq sgv : Nat) (hE : cd_E E oq sgq sgv) (n : Nat) (σ0 : cd_S) (b0 : cd_B) (p : (Int32 × cd_S × cd_B)) (h : f_X4_readGrants n σ0 b0 = some (Sum.inl p)) : (p.2.2.1 ≤ b0.1 ∧ p.2.2.2 ≤ b0.2) ∧ Met l yX4_readGrants (Cond.code yX4_readGrants cX4_readGrants 2 none :: v_CLS) ({ frames := 17, cells := b0.1 - p.2.2.1, slots := b0.2 - p.2.2.2, locals := 307 }) (hp_Pc D vwCl (hp_Tl cA) E sz (cd_pic cA ad ca0 σ0) [.ref (ad 4 0)]) (hp_Qv D vwCl (hp_Tl cA) sz (cd_pic cA ad ca0 σ0) (fun u => ∃ ca1, cd_inj ad ca1 ∧ u = cd_pic cA ad ca1 p.2.1)) (b0.1 - p.2.2.1) (b0.2 - p.2.2.2) (hp_A (cd_pic cA ad ca0 σ0) sz) := by
  obtain ⟨hm0, hn0, h⟩ := cd_cks h
  have hM0 : p.2.2.1 ≤ b0.1 ∧ p.2.2.2 ≤ b0.2 := ⟨hm0, hn0⟩
  refine ⟨hM0, ?_⟩
  refine hp_ofW (cc := cX4_readGrants) (maxL := 2) (ret := none) (by decide) rfl (Nat.le_of_ble_eq_true rfl) ?_
  intro pp ee ss mm bb mt cd ls cx hsz hw hl
  have hl : lv_has ls 2 [(0, .ref (ad 4 0))] := hl
  refine W.widen (k := b0.1 - b0.1) (n := b0.2 - b0.2) (Nat.zero_le _) (Nat.zero_le _) ?_
  refine lv_aload_n cx.1 cx.2.1 dX4_readGrants_0 rfl (lv_at hl 0 rfl) ?_
  refine cd_gO (o2 := 2) (e2 := 0) (o := 4) (k := 1) (f := 129) hj cx hw hic4 rfl ⟨by decide, rfl, by decide, rfl⟩ rfl (by decide) ⟨rfl, rfl⟩ (List.mem_cons_of_mem _ cm_722) dX4_readGrants_1 ?_
  obtain ⟨p1, e_p1, h⟩ := md_ob h
  refine hp_callVv (As := []) (rest := []) cx hw (kc_X2_clear l D cA E _ ad _ hj oq sgq sgv hE n σ0  p1 e_p1) (cwV 0 cx.2.2.2.2.2.1 (cd_giV cm_723 cm_724 cm_725 cm_167 cm_726) rfl rfl rfl hdc_X2_clear ⟨Nat.le_of_ble_eq_true rfl, Nat.le_of_ble_eq_true rfl⟩) (cd_atO hj (by decide) (by decide)) rfl rfl hl.1 rfl (Nat.le_of_ble_eq_true rfl) dX4_readGrants_4 ⟨by (try dsimp only); omega, by (try dsimp only); omega⟩ (fun u H locs hp hw => ?_)
  obtain ⟨ca, hj, rfl⟩ := hp
  refine lv_aload_n cx.1 cx.2.1 dX4_readGrants_7 rfl (lv_at hl 0 rfl) ?_
  refine lv_iconst (v := 0) cx.1 cx.2.1 dX4_readGrants_8 (by decide) ?_
  obtain ⟨σ2, e_σ2, h⟩ := md_ob h
  refine cd_pI (o := 4) (k := 10) (f := 138) hj cx hw hic4 rfl ⟨by decide, rfl, by decide, rfl⟩ tyX4_ok nmX4 rfl (by decide) rfl (List.mem_cons_of_mem _ cm_727) rfl e_σ2 dX4_readGrants_9 (fun H locs hw => ?_)
  refine lv_aload_n cx.1 cx.2.1 dX4_readGrants_12 rfl (lv_at hl 0 rfl) ?_
  refine lv_iconst (v := 0) cx.1 cx.2.1 dX4_readGrants_13 (by decide) ?_
  obtain ⟨σ3, e_σ3, h⟩ := md_ob h
  refine cd_pI (o := 4) (k := 6) (f := 134) hj cx hw hic4 rfl ⟨by decide, rfl, by decide, rfl⟩ tyX4_ok nmX4 rfl (by decide) rfl (List.mem_cons_of_mem _ cm_728) rfl e_σ3 dX4_readGrants_14 (fun H locs hw => ?_)
  refine lv_aload_n cx.1 cx.2.1 dX4_readGrants_17 rfl (lv_at hl 0 rfl) ?_
  refine lv_iconst (v := 0) cx.1 cx.2.1 dX4_readGrants_18 (by decide) ?_
  obtain ⟨σ4, e_σ4, h⟩ := md_ob h
  refine cd_pI (o := 4) (k := 11) (f := 139) hj cx hw hic4 rfl ⟨by decide, rfl, by decide, rfl⟩ tyX4_ok nmX4 rfl (by decide) rfl (List.mem_cons_of_mem _ cm_656) rfl e_σ4 dX4_readGrants_19 (fun H locs hw => ?_)
  refine lv_aload_n cx.1 cx.2.1 dX4_readGrants_22 rfl (lv_at hl 0 rfl) ?_
  refine lv_iconst (v := (-1)) cx.1 cx.2.1 dX4_readGrants_23 (by decide) ?_
  obtain ⟨σ5, e_σ5, h⟩ := md_ob h
  refine cd_pI (o := 4) (k := 12) (f := 140) hj cx hw hic4 rfl ⟨by decide, rfl, by decide, rfl⟩ tyX4_ok nmX4 rfl (by decide) rfl (List.mem_cons_of_mem _ cm_657) rfl e_σ5 dX4_readGrants_24 (fun H locs hw => ?_)
  refine lv_iconst (v := 0) cx.1 cx.2.1 dX4_readGrants_27 (by decide) ?_
  refine lv_istore_n (lv' := [(1, .int 0), (0, .ref (ad 4 0))]) cx.1 cx.2.1 dX4_readGrants_28 rfl hl (by decide) rfl (fun ls hl => ?_)
  have L29 : ∀ (j : Nat) (ca : Nat → Nat) (hj : cd_inj ad ca) (σ : cd_S) (b : cd_B) (l1 : Int32) (q : (((Int32 × cd_S × cd_B) ⊕ (cd_S × cd_B)) ⊕ (cd_S × cd_B × Int32))) (H : Heap) (locs : List Loc) (ls : Array Slot), b.1 ≤ b0.1 → b.2 ≤ b0.2 → p.2.2.1 ≤ b.1 → p.2.2.2 ≤ b.2 → p.2.2.1 ≤ (Sum.elim (fun (q : ((Int32 × cd_S × cd_B) ⊕ (cd_S × cd_B))) => Sum.elim (fun (p : (Int32 × cd_S × cd_B)) => p.2.2) (fun (t : cd_S × cd_B) => t.2) q) (fun (q : cd_S × cd_B × Int32) => q.2.1) q).1 → p.2.2.2 ≤ (Sum.elim (fun (q : ((Int32 × cd_S × cd_B) ⊕ (cd_S × cd_B))) => Sum.elim (fun (p : (Int32 × cd_S × cd_B)) => p.2.2) (fun (t : cd_S × cd_B) => t.2) q) (fun (q : cd_S × cd_B × Int32) => q.2.1) q).2 → f_X4_readGrants_L29 n j σ b l1 = some q → hp_w D vwCl (hp_Tl cA) E (hp_A (cd_pic cA ad ca0 σ0) sz) ss H locs (cd_pic cA ad ca σ) → lv_has ls 2 [(0, .ref (ad 4 0)), (1, .int l1)] → (∀ t, q = Sum.inr t → (∀ (ca : Nat → Nat) (hj : cd_inj ad ca) (H : Heap) (locs : List Loc) (ls : Array Slot), t.2.1.1 ≤ b0.1 → t.2.1.2 ≤ b0.2 → hp_w D vwCl (hp_Tl cA) E (hp_A (cd_pic cA ad ca0 σ0) sz) ss H locs (cd_pic cA ad ca t.1) → lv_has ls 2 [] → W pp l ee ({ frames := 17, cells := b0.1 - p.2.2.1, slots := b0.2 - p.2.2.2, locals := 307 }) ss mm [.ref (ad 4 0)].toArray bb mt cd H locs (b0.1 - t.2.1.1) (b0.2 - t.2.1.2) (MQ bb (hp_Qv D vwCl (hp_Tl cA) sz (cd_pic cA ad ca0 σ0) (fun u => ∃ ca1, cd_inj ad ca1 ∧ u = cd_pic cA ad ca1 p.2.1)) [.ref (ad 4 0)].toArray ss (b0.1 - p.2.2.1) (b0.2 - p.2.2.2) (hp_A (cd_pic cA ad ca0 σ0) sz)) (F0 mm 73 ls []))) → (∀ r, q = Sum.inl r → r = Sum.inl p) → W pp l ee ({ frames := 17, cells := b0.1 - p.2.2.1, slots := b0.2 - p.2.2.2, locals := 307 }) ss mm [.ref (ad 4 0)].toArray bb mt cd H locs (b0.1 - b.1) (b0.2 - b.2) (MQ bb (hp_Qv D vwCl (hp_Tl cA) sz (cd_pic cA ad ca0 σ0) (fun u => ∃ ca1, cd_inj ad ca1 ∧ u = cd_pic cA ad ca1 p.2.1)) [.ref (ad 4 0)].toArray ss (b0.1 - p.2.2.1) (b0.2 - p.2.2.2) (hp_A (cd_pic cA ad ca0 σ0) sz)) (F0 mm 29 ls []) := by
    intro j
    induction j with
    | zero => intro ca hj σ b l1 q H locs ls hb1 hb2 hf1 hf2 hq1 hq2 h; exact nomatch h
    | succ j ih =>
      intro ca hj σ b l1 q H locs ls hb1 hb2 hf1 hf2 hq1 hq2 h hw hl K KR
      unfold f_X4_readGrants_L29 at h
      have J60 : ∀ (ca : Nat → Nat) (hj : cd_inj ad ca) (σ : cd_S) (b : cd_B) (l1 : Int32) (t0 : Int32) (H : Heap) (locs : List Loc) (ls : Array Slot), b.1 ≤ b0.1 → b.2 ≤ b0.2 → p.2.2.1 ≤ b.1 → p.2.2.2 ≤ b.2 → f_X4_readGrants_J60 n (f_X4_readGrants_L29 n j) σ b l1 t0 = some q → hp_w D vwCl (hp_Tl cA) E (hp_A (cd_pic cA ad ca0 σ0) sz) ss H locs (cd_pic cA ad ca σ) → lv_has ls 2 [(0, .ref (ad 4 0)), (1, .int l1)] → W pp l ee ({ frames := 17, cells := b0.1 - p.2.2.1, slots := b0.2 - p.2.2.2, locals := 307 }) ss mm [.ref (ad 4 0)].toArray bb mt cd H locs (b0.1 - b.1) (b0.2 - b.2) (MQ bb (hp_Qv D vwCl (hp_Tl cA) sz (cd_pic cA ad ca0 σ0) (fun u => ∃ ca1, cd_inj ad ca1 ∧ u = cd_pic cA ad ca1 p.2.1)) [.ref (ad 4 0)].toArray ss (b0.1 - p.2.2.1) (b0.2 - p.2.2.2) (hp_A (cd_pic cA ad ca0 σ0) sz)) (F0 mm 60 ls [.int t0, .ref (ad 4 0)]) := by
        intro ca hj σ b l1 t0 H locs ls hb1 hb2 hf1 hf2 h hw hl
        obtain ⟨q6, e_q6, h⟩ := md_ob h
        obtain ⟨hm7, hn7, h⟩ := cd_cks h
        have hM7 : p.2.2.1 ≤ (Sum.elim (fun (p : Int32 × cd_S × cd_B) => p.2.2) (fun (t : cd_S × cd_B) => t.2) q6).1 ∧ p.2.2.2 ≤ (Sum.elim (fun (p : Int32 × cd_S × cd_B) => p.2.2) (fun (t : cd_S × cd_B) => t.2) q6).2 := ⟨Nat.le_trans hq1 hm7, Nat.le_trans hq2 hn7⟩
        cases q6 with
        | inr t6 =>
          exact nomatch KR _ (Option.some.inj h).symm
        | inl p6 =>
          have hle6 := (kc_X4_room l D cA E sz ad _ hj oq sgq sgv hE n σ b t0 p6 e_q6).1
          have hM10007 : p.2.2.1 ≤ p6.2.2.1 ∧ p.2.2.2 ≤ p6.2.2.2 := hM7
          have h := cd_inl h
          refine hp_callVv (As := [.int t0]) (rest := []) cx hw ((kc_X4_room l D cA E _ ad _ hj oq sgq sgv hE n σ b t0 p6 e_q6).2) (cwV 1 cx.2.2.2.2.2.1 (cd_giV cm_691 cm_692 cm_693 cm_663 cm_694) rfl rfl rfl hdc_X4_room ⟨Nat.le_of_ble_eq_true rfl, Nat.le_of_ble_eq_true rfl⟩) (cd_atO hj (by decide) (by decide)) rfl rfl hl.1 rfl (Nat.le_of_ble_eq_true rfl) dX4_readGrants_60 ⟨by (try dsimp only); omega, by (try dsimp only); omega⟩ (fun u H locs hp hw => ?_)
          obtain ⟨ca, hj, rfl⟩ := hp
          refine W.widen (k := b0.1 - p6.2.2.1) (n := b0.2 - p6.2.2.2) (by omega) (by omega) ?_
          refine lv_aload_n cx.1 cx.2.1 dX4_readGrants_63 rfl (lv_at hl 0 rfl) ?_
          obtain ⟨q8, e_q8, h⟩ := md_ob h
          obtain ⟨hm9, hn9, h⟩ := cd_cks h
          have hM9 : p.2.2.1 ≤ (Sum.elim (fun (p : Int32 × cd_S × cd_B) => p.2.2) (fun (t : cd_S × cd_B) => t.2) q8).1 ∧ p.2.2.2 ≤ (Sum.elim (fun (p : Int32 × cd_S × cd_B) => p.2.2) (fun (t : cd_S × cd_B) => t.2) q8).2 := ⟨Nat.le_trans hq1 hm9, Nat.le_trans hq2 hn9⟩
          cases q8 with
          | inr t8 =>
            exact nomatch KR _ (Option.some.inj h).symm
          | inl p8 =>
            have hle8 := (kc_X4_readGrant l D cA E sz ad _ hj oq sgq sgv hE n p6.2.1 (p6.2.2)  p8 e_q8).1
            have hM10009 : p.2.2.1 ≤ p8.2.2.1 ∧ p.2.2.2 ≤ p8.2.2.2 := hM9
            have h := cd_inl h
            refine hp_callVv (As := []) (rest := []) cx hw ((kc_X4_readGrant l D cA E _ ad _ hj oq sgq sgv hE n p6.2.1 (p6.2.2)  p8 e_q8).2) (cwV 0 cx.2.2.2.2.2.1 (cd_giV cm_729 cm_730 cm_731 cm_663 cm_732) rfl rfl rfl hdc_X4_readGrant ⟨Nat.le_of_ble_eq_true rfl, Nat.le_of_ble_eq_true rfl⟩) (cd_atO hj (by decide) (by decide)) rfl rfl hl.1 rfl (Nat.le_of_ble_eq_true rfl) dX4_readGrants_64 ⟨by (try dsimp only); omega, by (try dsimp only); omega⟩ (fun u H locs hp hw => ?_)
            obtain ⟨ca, hj, rfl⟩ := hp
            refine W.widen (k := b0.1 - p8.2.2.1) (n := b0.2 - p8.2.2.2) (by omega) (by omega) ?_
            refine lv_iinc (v := (l1 + 1)) (lv' := [(1, .int (l1 + 1)), (0, .ref (ad 4 0))]) cx.1 cx.2.1 dX4_readGrants_67 hl (k := 1) rfl rfl (by decide) rfl (fun ls hl => ?_)
            refine lv_goto (tgt := 29) cx.1 cx.2.1 dX4_readGrants_70 (by decide) ?_
            exact ih _ hj p8.2.1 (p8.2.2) ((l1 + 1)) q _ _ _ (by omega) (by omega) (by omega) (by omega) hq1 hq2 h hw (lv_sub hl [1, 0] rfl) K KR
      refine lv_iload_n cx.1 cx.2.1 dX4_readGrants_29 rfl (lv_at hl 1 rfl) ?_
      refine lv_bipush (v := 8) cx.1 cx.2.1 dX4_readGrants_30 (by decide) ?_
      refine lv_icmp_gt (tgt := 73) cx.1 cx.2.1 dX4_readGrants_32 (by decide) (fun c32 => ?_) (fun c32 => ?_)
      · have h := md_ip c32 h
        exact K _ (Option.some.inj h).symm _ hj _ _ _ (by (try dsimp only); omega) (by (try dsimp only); omega) hw (lv_sub hl [] rfl)
      · have h := md_in c32 h
        refine lv_aload_n cx.1 cx.2.1 dX4_readGrants_35 rfl (lv_at hl 0 rfl) ?_
        refine cd_gO (o2 := 10) (e2 := 0) (o := 4) (k := 0) (f := 128) hj cx hw hic4 rfl ⟨by decide, rfl, by decide, rfl⟩ rfl (by decide) ⟨rfl, rfl⟩ (List.mem_cons_of_mem _ cm_658) dX4_readGrants_36 ?_
        refine cd_gI (o := 10) (k := 8) (f := 328) hj cx hw hic10 rfl ⟨by decide, rfl, by decide, rfl⟩ rfl (by decide) (List.mem_cons_of_mem _ cm_665) dX4_readGrants_39 ?_
        refine lv_sipush (v := 210) cx.1 cx.2.1 dX4_readGrants_42 (by decide) ?_
        refine lv_icmp_ne (tgt := 73) cx.1 cx.2.1 dX4_readGrants_45 (by decide) (fun c45 => ?_) (fun c45 => ?_)
        · have h := md_in c45 h
          exact K _ (Option.some.inj h).symm _ hj _ _ _ (by (try dsimp only); omega) (by (try dsimp only); omega) hw (lv_sub hl [] rfl)
        · have h := md_ip c45 h
          refine lv_aload_n cx.1 cx.2.1 dX4_readGrants_48 rfl (lv_at hl 0 rfl) ?_
          refine lv_iload_n cx.1 cx.2.1 dX4_readGrants_49 rfl (lv_at hl 1 rfl) ?_
          refine lv_bipush (v := 8) cx.1 cx.2.1 dX4_readGrants_50 (by decide) ?_
          refine lv_icmp_ge (tgt := 59) cx.1 cx.2.1 dX4_readGrants_52 (by decide) (fun c52 => ?_) (fun c52 => ?_)
          · have h := md_ip c52 h
            refine lv_iconst (v := 0) cx.1 cx.2.1 dX4_readGrants_59 (by decide) ?_
            exact J60 _ hj σ b l1 0 _ _ _ (by omega) (by omega) (by omega) (by omega) h hw (lv_sub hl [0, 1] rfl)
          · have h := md_in c52 h
            refine lv_iconst (v := 1) cx.1 cx.2.1 dX4_readGrants_55 (by decide) ?_
            refine lv_goto (tgt := 60) cx.1 cx.2.1 dX4_readGrants_56 (by decide) ?_
            exact J60 _ hj σ b l1 1 _ _ _ (by omega) (by omega) (by omega) (by omega) h hw (lv_sub hl [0, 1] rfl)
  obtain ⟨q10, e_q10, h⟩ := md_ob h
  obtain ⟨hm11, hn11, h⟩ := cd_cks h
  have hM11 : p.2.2.1 ≤ (Sum.elim (fun (q : ((Int32 × cd_S × cd_B) ⊕ (cd_S × cd_B))) => Sum.elim (fun (p : (Int32 × cd_S × cd_B)) => p.2.2) (fun (t : cd_S × cd_B) => t.2) q) (fun (q : cd_S × cd_B × Int32) => q.2.1) q10).1 ∧ p.2.2.2 ≤ (Sum.elim (fun (q : ((Int32 × cd_S × cd_B) ⊕ (cd_S × cd_B))) => Sum.elim (fun (p : (Int32 × cd_S × cd_B)) => p.2.2) (fun (t : cd_S × cd_B) => t.2) q) (fun (q : cd_S × cd_B × Int32) => q.2.1) q10).2 := ⟨hm11, hn11⟩
  refine L29 n _ hj σ5 b0 0 q10 _ _ _ (by omega) (by omega) (by omega) (by omega) hM11.1 hM11.2 e_q10 hw (lv_sub hl [1, 0] rfl) (fun t10 hq10 ca hj H locs ls hb1 hb2 hw hl => ?_) (fun r hr => by subst hr; exact Option.some.inj h)
  subst hq10
  have h := md_inr h
  have hS11 : p.2.2.1 ≤ t10.2.1.1 ∧ p.2.2.2 ≤ t10.2.1.2 := hM11
  exact hp_vret cx hw ((cd_retb hj (congrArg some (Sum.inl.inj (Option.some.inj h)))).2) dX4_readGrants_73 (cd_le1 (congrArg some (Sum.inl.inj (Option.some.inj h)))) (cd_le2 (congrArg some (Sum.inl.inj (Option.some.inj h))))
set_option maxHeartbeats 4000000 in
set_option maxRecDepth 100000 in
theorem kc_X4_hasModule (l : Launch) (D : va_G) (cA : Nat → ClassId) (E : hp_N) (sz : Nat) (ad : Nat → Nat → Nat) (ca0 : Nat → Nat) (hj : cd_inj ad ca0) (oq sgq sgv : Nat) (hE : cd_E E oq sgq sgv) (n : Nat) (σ0 : cd_S) (b0 : cd_B) (p : (Int32 × cd_S × cd_B)) (h : f_X4_hasModule n σ0 b0 = some (Sum.inl p)) : (p.2.2.1 ≤ b0.1 ∧ p.2.2.2 ≤ b0.2) ∧ Met l yX4_hasModule (Cond.code yX4_hasModule cX4_hasModule 2 (some .boolean) :: v_CLS) ({ frames := 14, cells := b0.1 - p.2.2.1, slots := b0.2 - p.2.2.2, locals := 243 }) (hp_Pc D vwCl (hp_Tl cA) E sz (cd_pic cA ad ca0 σ0) [.ref (ad 4 0)]) (hp_Qi D vwCl (hp_Tl cA) sz (cd_pic cA ad ca0 σ0) (fun r u => r = p.1 ∧ ∃ ca1, cd_inj ad ca1 ∧ u = cd_pic cA ad ca1 p.2.1)) (b0.1 - p.2.2.1) (b0.2 - p.2.2.2) (hp_A (cd_pic cA ad ca0 σ0) sz) := by
  obtain ⟨hm0, hn0, h⟩ := cd_cks h
  have hM0 : p.2.2.1 ≤ b0.1 ∧ p.2.2.2 ≤ b0.2 := ⟨hm0, hn0⟩
  refine ⟨hM0, ?_⟩
  refine hp_ofW (cc := cX4_hasModule) (maxL := 2) (ret := (some .boolean)) (by decide) rfl (Nat.le_of_ble_eq_true rfl) ?_
  intro pp ee ss mm bb mt cd ls cx hsz hw hl
  have hl : lv_has ls 2 [(0, .ref (ad 4 0))] := hl
  refine W.widen (k := b0.1 - b0.1) (n := b0.2 - b0.2) (Nat.zero_le _) (Nat.zero_le _) ?_
  have J49 : ∀ (ca : Nat → Nat) (hj : cd_inj ad ca) (σ : cd_S) (b : cd_B) (l1 : Int32) (t0 : Int32) (H : Heap) (locs : List Loc) (ls : Array Slot), b.1 ≤ b0.1 → b.2 ≤ b0.2 → p.2.2.1 ≤ b.1 → p.2.2.2 ≤ b.2 → f_X4_hasModule_J49 n σ b l1 t0 = some (Sum.inl p) → hp_w D vwCl (hp_Tl cA) E (hp_A (cd_pic cA ad ca0 σ0) sz) ss H locs (cd_pic cA ad ca σ) → lv_has ls 2 [(1, .int l1)] → W pp l ee ({ frames := 14, cells := b0.1 - p.2.2.1, slots := b0.2 - p.2.2.2, locals := 243 }) ss mm [.ref (ad 4 0)].toArray bb mt cd H locs (b0.1 - b.1) (b0.2 - b.2) (MQ bb (hp_Qi D vwCl (hp_Tl cA) sz (cd_pic cA ad ca0 σ0) (fun r u => r = p.1 ∧ ∃ ca1, cd_inj ad ca1 ∧ u = cd_pic cA ad ca1 p.2.1)) [.ref (ad 4 0)].toArray ss (b0.1 - p.2.2.1) (b0.2 - p.2.2.2) (hp_A (cd_pic cA ad ca0 σ0) sz)) (F0 mm 49 ls [.int t0, .ref (ad 4 0)]) := by
    intro ca hj σ b l1 t0 H locs ls hb1 hb2 hf1 hf2 h hw hl
    obtain ⟨q1, e_q1, h⟩ := md_ob h
    obtain ⟨hm2, hn2, h⟩ := cd_cks h
    have hM2 : p.2.2.1 ≤ (Sum.elim (fun (p : Int32 × cd_S × cd_B) => p.2.2) (fun (t : cd_S × cd_B) => t.2) q1).1 ∧ p.2.2.2 ≤ (Sum.elim (fun (p : Int32 × cd_S × cd_B) => p.2.2) (fun (t : cd_S × cd_B) => t.2) q1).2 := ⟨hm2, hn2⟩
    cases q1 with
    | inr t1 =>
      exact nomatch Option.some.inj h
    | inl p1 =>
      have hle1 := (kc_X4_need l D cA E sz ad _ hj oq sgq sgv hE n σ b t0 p1 e_q1).1
      have hM10002 : p.2.2.1 ≤ p1.2.2.1 ∧ p.2.2.2 ≤ p1.2.2.2 := hM2
      have h := cd_inl h
      refine hp_callVv (As := [.int t0]) (rest := []) cx hw ((kc_X4_need l D cA E _ ad _ hj oq sgq sgv hE n σ b t0 p1 e_q1).2) (cwV 1 cx.2.2.2.2.2.1 (cd_giV cm_666 cm_667 cm_668 cm_663 cm_669) rfl rfl rfl hdc_X4_need ⟨Nat.le_of_ble_eq_true rfl, Nat.le_of_ble_eq_true rfl⟩) (cd_atO hj (by decide) (by decide)) rfl rfl hl.1 rfl (Nat.le_of_ble_eq_true rfl) dX4_hasModule_49 ⟨by (try dsimp only); omega, by (try dsimp only); omega⟩ (fun u H locs hp hw => ?_)
      obtain ⟨ca, hj, rfl⟩ := hp
      refine W.widen (k := b0.1 - p1.2.2.1) (n := b0.2 - p1.2.2.2) (by omega) (by omega) ?_
      refine lv_iload_n cx.1 cx.2.1 dX4_hasModule_52 rfl (lv_at hl 0 rfl) ?_
      obtain ⟨z3, e_z3, h⟩ := md_ob h
      rw [(md_zbs e_z3).1] at h
      exact hp_zret cx hw (cd_retb hj (congrArg some (Sum.inl.inj (Option.some.inj h)))) (md_nbn (md_zbs e_z3).2) dX4_hasModule_53 (cd_le1 (congrArg some (Sum.inl.inj (Option.some.inj h)))) (cd_le2 (congrArg some (Sum.inl.inj (Option.some.inj h))))
  have J48 : ∀ (ca : Nat → Nat) (hj : cd_inj ad ca) (σ : cd_S) (b : cd_B) (l1 : Int32) (H : Heap) (locs : List Loc) (ls : Array Slot), b.1 ≤ b0.1 → b.2 ≤ b0.2 → p.2.2.1 ≤ b.1 → p.2.2.2 ≤ b.2 → f_X4_hasModule_J48 n σ b l1 = some (Sum.inl p) → hp_w D vwCl (hp_Tl cA) E (hp_A (cd_pic cA ad ca0 σ0) sz) ss H locs (cd_pic cA ad ca σ) → lv_has ls 2 [(1, .int l1)] → W pp l ee ({ frames := 14, cells := b0.1 - p.2.2.1, slots := b0.2 - p.2.2.2, locals := 243 }) ss mm [.ref (ad 4 0)].toArray bb mt cd H locs (b0.1 - b.1) (b0.2 - b.2) (MQ bb (hp_Qi D vwCl (hp_Tl cA) sz (cd_pic cA ad ca0 σ0) (fun r u => r = p.1 ∧ ∃ ca1, cd_inj ad ca1 ∧ u = cd_pic cA ad ca1 p.2.1)) [.ref (ad 4 0)].toArray ss (b0.1 - p.2.2.1) (b0.2 - p.2.2.2) (hp_A (cd_pic cA ad ca0 σ0) sz)) (F0 mm 48 ls [.ref (ad 4 0)]) := by
    intro ca hj σ b l1 H locs ls hb1 hb2 hf1 hf2 h hw hl
    refine lv_iconst (v := 0) cx.1 cx.2.1 dX4_hasModule_48 (by decide) ?_
    exact J49 _ hj σ b l1 0 _ _ _ (by omega) (by omega) (by omega) (by omega) h hw (lv_sub hl [0] rfl)
  have J44 : ∀ (ca : Nat → Nat) (hj : cd_inj ad ca) (σ : cd_S) (b : cd_B) (l1 : Int32) (H : Heap) (locs : List Loc) (ls : Array Slot), b.1 ≤ b0.1 → b.2 ≤ b0.2 → p.2.2.1 ≤ b.1 → p.2.2.2 ≤ b.2 → f_X4_hasModule_J44 n σ b l1 = some (Sum.inl p) → hp_w D vwCl (hp_Tl cA) E (hp_A (cd_pic cA ad ca0 σ0) sz) ss H locs (cd_pic cA ad ca σ) → lv_has ls 2 [(1, .int l1)] → W pp l ee ({ frames := 14, cells := b0.1 - p.2.2.1, slots := b0.2 - p.2.2.2, locals := 243 }) ss mm [.ref (ad 4 0)].toArray bb mt cd H locs (b0.1 - b.1) (b0.2 - b.2) (MQ bb (hp_Qi D vwCl (hp_Tl cA) sz (cd_pic cA ad ca0 σ0) (fun r u => r = p.1 ∧ ∃ ca1, cd_inj ad ca1 ∧ u = cd_pic cA ad ca1 p.2.1)) [.ref (ad 4 0)].toArray ss (b0.1 - p.2.2.1) (b0.2 - p.2.2.2) (hp_A (cd_pic cA ad ca0 σ0) sz)) (F0 mm 44 ls [.ref (ad 4 0)]) := by
    intro ca hj σ b l1 H locs ls hb1 hb2 hf1 hf2 h hw hl
    refine lv_iconst (v := 1) cx.1 cx.2.1 dX4_hasModule_44 (by decide) ?_
    refine lv_goto (tgt := 49) cx.1 cx.2.1 dX4_hasModule_45 (by decide) ?_
    exact J49 _ hj σ b l1 1 _ _ _ (by omega) (by omega) (by omega) (by omega) h hw (lv_sub hl [0] rfl)
  have J18 : ∀ (ca : Nat → Nat) (hj : cd_inj ad ca) (σ : cd_S) (b : cd_B) (t0 : Int32) (H : Heap) (locs : List Loc) (ls : Array Slot), b.1 ≤ b0.1 → b.2 ≤ b0.2 → p.2.2.1 ≤ b.1 → p.2.2.2 ≤ b.2 → f_X4_hasModule_J18 n σ b t0 = some (Sum.inl p) → hp_w D vwCl (hp_Tl cA) E (hp_A (cd_pic cA ad ca0 σ0) sz) ss H locs (cd_pic cA ad ca σ) → lv_has ls 2 [(0, .ref (ad 4 0))] → W pp l ee ({ frames := 14, cells := b0.1 - p.2.2.1, slots := b0.2 - p.2.2.2, locals := 243 }) ss mm [.ref (ad 4 0)].toArray bb mt cd H locs (b0.1 - b.1) (b0.2 - b.2) (MQ bb (hp_Qi D vwCl (hp_Tl cA) sz (cd_pic cA ad ca0 σ0) (fun r u => r = p.1 ∧ ∃ ca1, cd_inj ad ca1 ∧ u = cd_pic cA ad ca1 p.2.1)) [.ref (ad 4 0)].toArray ss (b0.1 - p.2.2.1) (b0.2 - p.2.2.2) (hp_A (cd_pic cA ad ca0 σ0) sz)) (F0 mm 18 ls [.int t0]) := by
    intro ca hj σ b t0 H locs ls hb1 hb2 hf1 hf2 h hw hl
    refine lv_istore_n (lv' := [(1, .int t0), (0, .ref (ad 4 0))]) cx.1 cx.2.1 dX4_hasModule_18 rfl hl (by decide) rfl (fun ls hl => ?_)
    refine lv_aload_n cx.1 cx.2.1 dX4_hasModule_19 rfl (lv_at hl 1 rfl) ?_
    refine lv_iload_n cx.1 cx.2.1 dX4_hasModule_20 rfl (lv_at hl 0 rfl) ?_
    refine lv_if_ne (tgt := 44) cx.1 cx.2.1 dX4_hasModule_21 (by decide) (fun c21 => ?_) (fun c21 => ?_)
    · have h := md_in c21 h
      exact J44 _ hj σ b t0 _ _ _ (by omega) (by omega) (by omega) (by omega) h hw (lv_sub hl [0] rfl)
    · have h := md_ip c21 h
      refine lv_aload_n cx.1 cx.2.1 dX4_hasModule_24 rfl (lv_at hl 1 rfl) ?_
      refine cd_gO (o2 := 10) (e2 := 0) (o := 4) (k := 0) (f := 128) hj cx hw hic4 rfl ⟨by decide, rfl, by decide, rfl⟩ rfl (by decide) ⟨rfl, rfl⟩ (List.mem_cons_of_mem _ cm_658) dX4_hasModule_25 ?_
      refine cd_gI (o := 10) (k := 8) (f := 328) hj cx hw hic10 rfl ⟨by decide, rfl, by decide, rfl⟩ rfl (by decide) (List.mem_cons_of_mem _ cm_665) dX4_hasModule_28 ?_
      refine lv_if_ne (tgt := 48) cx.1 cx.2.1 dX4_hasModule_31 (by decide) (fun c31 => ?_) (fun c31 => ?_)
      · have h := md_in c31 h
        exact J48 _ hj σ b t0 _ _ _ (by omega) (by omega) (by omega) (by omega) h hw (lv_sub hl [0] rfl)
      · have h := md_ip c31 h
        refine lv_aload_n cx.1 cx.2.1 dX4_hasModule_34 rfl (lv_at hl 1 rfl) ?_
        refine cd_gO (o2 := 2) (e2 := 0) (o := 4) (k := 1) (f := 129) hj cx hw hic4 rfl ⟨by decide, rfl, by decide, rfl⟩ rfl (by decide) ⟨rfl, rfl⟩ (List.mem_cons_of_mem _ cm_722) dX4_hasModule_35 ?_
        refine cd_gI (o := 2) (k := 10) (f := 74) hj cx hw hic2 rfl ⟨by decide, rfl, by decide, rfl⟩ rfl (by decide) (List.mem_cons_of_mem _ cm_733) dX4_hasModule_38 ?_
        refine lv_if_le (tgt := 48) cx.1 cx.2.1 dX4_hasModule_41 (by decide) (fun c41 => ?_) (fun c41 => ?_)
        · have h := md_ip c41 h
          exact J48 _ hj σ b t0 _ _ _ (by omega) (by omega) (by omega) (by omega) h hw (lv_sub hl [0] rfl)
        · have h := md_in c41 h
          exact J44 _ hj σ b t0 _ _ _ (by omega) (by omega) (by omega) (by omega) h hw (lv_sub hl [0] rfl)
  refine lv_aload_n cx.1 cx.2.1 dX4_hasModule_0 rfl (lv_at hl 0 rfl) ?_
  refine cd_gO (o2 := 10) (e2 := 0) (o := 4) (k := 0) (f := 128) hj cx hw hic4 rfl ⟨by decide, rfl, by decide, rfl⟩ rfl (by decide) ⟨rfl, rfl⟩ (List.mem_cons_of_mem _ cm_658) dX4_hasModule_1 ?_
  refine cd_gI (o := 10) (k := 8) (f := 328) hj cx hw hic10 rfl ⟨by decide, rfl, by decide, rfl⟩ rfl (by decide) (List.mem_cons_of_mem _ cm_665) dX4_hasModule_4 ?_
  refine lv_sipush (v := 211) cx.1 cx.2.1 dX4_hasModule_7 (by decide) ?_
  refine lv_icmp_ne (tgt := 17) cx.1 cx.2.1 dX4_hasModule_10 (by decide) (fun c10 => ?_) (fun c10 => ?_)
  · have h := md_in c10 h
    refine lv_iconst (v := 0) cx.1 cx.2.1 dX4_hasModule_17 (by decide) ?_
    exact J18 _ hj σ0 b0 0 _ _ _ (by omega) (by omega) (by omega) (by omega) h hw (lv_sub hl [0] rfl)
  · have h := md_ip c10 h
    refine lv_iconst (v := 1) cx.1 cx.2.1 dX4_hasModule_13 (by decide) ?_
    refine lv_goto (tgt := 18) cx.1 cx.2.1 dX4_hasModule_14 (by decide) ?_
    exact J18 _ hj σ0 b0 1 _ _ _ (by omega) (by omega) (by omega) (by omega) h hw (lv_sub hl [0] rfl)
