set_option maxHeartbeats 4000000 in
set_option maxRecDepth 100000 in
theorem km_X12_stepTry (l : Launch) (D : va_G) (cA : Nat → ClassId) (E : hp_N) (sz : Nat) (ad : Nat → Nat) (hj : md_inj ad) (hE : md_E E) (n : Nat) (σ0 : md_S) (a1 : Int32) (a2 : Int32) (p : (Int32 × md_S)) (h : f_X12_stepTry n σ0 a1 a2 = some p) : Met l yX12_stepTry (Cond.code yX12_stepTry cX12_stepTry 4 none :: v_MOD) ({ frames := 0, cells := 0, slots := 0, locals := 0 }) (hp_Pc D vwCl (hp_Tl cA) E sz (md_pic cA ad σ0) [.ref (ad 137), .int a1, .int a2]) (hp_Qv D vwCl (hp_Tl cA) sz (md_pic cA ad σ0) (fun u => u = md_pic cA ad p.2)) 0 0 (hp_A (md_pic cA ad σ0) sz) := by
  refine hp_ofW (cc := cX12_stepTry) (maxL := 4) (ret := none) (by decide) rfl (Nat.le_of_ble_eq_true rfl) ?_
  intro pp ee ss mm bb mt cd ls cx hsz hw hl
  have hl : lv_has ls 4 [(0, .ref (ad 137)), (1, .int a1), (2, .int a2)] := hl
  refine lv_aload_n cx.1 cx.2.1 dX12_stepTry_0 rfl (lv_at hl 0 rfl) ?_
  refine md_gR (k := 113) cx hw hin12c (by decide) (by decide) (List.mem_cons_of_mem _ mm_556) dX12_stepTry_1 ?_
  refine lv_iload_n cx.1 cx.2.1 dX12_stepTry_4 rfl (lv_at hl 1 rfl) ?_
  refine lv_dup2_11 cx.1 cx.2.1 dX12_stepTry_5 rfl rfl ?_
  obtain ⟨v1, e_v1, h⟩ := md_ob h
  refine md_lI (k := 113) hj cx hw (by decide) rfl rfl rfl e_v1 dX12_stepTry_6 ?_
  refine lv_iconst (v := 3) cx.1 cx.2.1 dX12_stepTry_7 (by decide) ?_
  refine lv_iadd cx.1 cx.2.1 dX12_stepTry_8 ?_
  obtain ⟨σ2, e_σ2, h⟩ := md_ob h
  refine md_sI (k := 113) hj cx hw (by decide) rfl rfl rfl e_σ2 dX12_stepTry_9 (fun H locs hw => ?_)
  refine lv_sipush (v := 1500) cx.1 cx.2.1 dX12_stepTry_10 (by decide) ?_
  refine lv_aload_n cx.1 cx.2.1 dX12_stepTry_13 rfl (lv_at hl 0 rfl) ?_
  refine md_gI (k := 127) cx hw hin12c rfl (by decide) (List.mem_cons_of_mem _ mm_538) dX12_stepTry_14 ?_
  refine lv_imul cx.1 cx.2.1 dX12_stepTry_17 ?_
  refine lv_aload_n cx.1 cx.2.1 dX12_stepTry_18 rfl (lv_at hl 0 rfl) ?_
  refine md_gR (k := 123) cx hw hin12c (by decide) (by decide) (List.mem_cons_of_mem _ mm_546) dX12_stepTry_19 ?_
  refine lv_aload_n cx.1 cx.2.1 dX12_stepTry_22 rfl (lv_at hl 0 rfl) ?_
  refine md_gI (k := 127) cx hw hin12c rfl (by decide) (List.mem_cons_of_mem _ mm_538) dX12_stepTry_23 ?_
  obtain ⟨v3, e_v3, h⟩ := md_ob h
  refine md_lI (k := 123) hj cx hw (by decide) rfl rfl rfl e_v3 dX12_stepTry_26 ?_
  refine lv_iadd cx.1 cx.2.1 dX12_stepTry_27 ?_
  refine lv_istore_n (lv' := [(3, .int (((1500 : Int32) * (mI σ2 127)) + v3)), (0, .ref (ad 137)), (1, .int a1), (2, .int a2)]) cx.1 cx.2.1 dX12_stepTry_28 rfl hl (by decide) rfl (fun ls hl => ?_)
  refine lv_aload_n cx.1 cx.2.1 dX12_stepTry_29 rfl (lv_at hl 1 rfl) ?_
  refine md_gR (k := 124) cx hw hin12c (by decide) (by decide) (List.mem_cons_of_mem _ mm_547) dX12_stepTry_30 ?_
  refine lv_iload_n cx.1 cx.2.1 dX12_stepTry_33 rfl (lv_at hl 0 rfl) ?_
  refine lv_aload_n cx.1 cx.2.1 dX12_stepTry_34 rfl (lv_at hl 1 rfl) ?_
  refine md_gR (k := 111) cx hw hin12c (by decide) (by decide) (List.mem_cons_of_mem _ mm_539) dX12_stepTry_35 ?_
  refine lv_aload_n cx.1 cx.2.1 dX12_stepTry_38 rfl (lv_at hl 1 rfl) ?_
  refine md_gI (k := 127) cx hw hin12c rfl (by decide) (List.mem_cons_of_mem _ mm_538) dX12_stepTry_39 ?_
  obtain ⟨v4, e_v4, h⟩ := md_ob h
  refine md_lI (k := 111) hj cx hw (by decide) rfl rfl rfl e_v4 dX12_stepTry_42 ?_
  obtain ⟨σ5, e_σ5, h⟩ := md_ob h
  refine md_sI (k := 124) hj cx hw (by decide) rfl rfl rfl e_σ5 dX12_stepTry_43 (fun H locs hw => ?_)
  refine lv_aload_n cx.1 cx.2.1 dX12_stepTry_44 rfl (lv_at hl 1 rfl) ?_
  refine md_gR (k := 125) cx hw hin12c (by decide) (by decide) (List.mem_cons_of_mem _ mm_548) dX12_stepTry_45 ?_
  refine lv_iload_n cx.1 cx.2.1 dX12_stepTry_48 rfl (lv_at hl 0 rfl) ?_
  refine lv_aload_n cx.1 cx.2.1 dX12_stepTry_49 rfl (lv_at hl 1 rfl) ?_
  refine md_gR (k := 120) cx hw hin12c (by decide) (by decide) (List.mem_cons_of_mem _ mm_540) dX12_stepTry_50 ?_
  refine lv_aload_n cx.1 cx.2.1 dX12_stepTry_53 rfl (lv_at hl 1 rfl) ?_
  refine md_gI (k := 127) cx hw hin12c rfl (by decide) (List.mem_cons_of_mem _ mm_538) dX12_stepTry_54 ?_
  obtain ⟨v6, e_v6, h⟩ := md_ob h
  refine md_lI (k := 120) hj cx hw (by decide) rfl rfl rfl e_v6 dX12_stepTry_57 ?_
  obtain ⟨σ7, e_σ7, h⟩ := md_ob h
  refine md_sI (k := 125) hj cx hw (by decide) rfl rfl rfl e_σ7 dX12_stepTry_58 (fun H locs hw => ?_)
  refine lv_aload_n cx.1 cx.2.1 dX12_stepTry_59 rfl (lv_at hl 1 rfl) ?_
  refine md_gR (k := 126) cx hw hin12c (by decide) (by decide) (List.mem_cons_of_mem _ mm_557) dX12_stepTry_60 ?_
  refine lv_iload_n cx.1 cx.2.1 dX12_stepTry_63 rfl (lv_at hl 0 rfl) ?_
  refine lv_aload_n cx.1 cx.2.1 dX12_stepTry_64 rfl (lv_at hl 1 rfl) ?_
  refine md_gR (k := 76) cx hw hin12c (by decide) (by decide) (List.mem_cons_of_mem _ mm_415) dX12_stepTry_65 ?_
  refine lv_iconst (v := 2) cx.1 cx.2.1 dX12_stepTry_68 (by decide) ?_
  refine lv_aload_n cx.1 cx.2.1 dX12_stepTry_69 rfl (lv_at hl 1 rfl) ?_
  refine md_gR (k := 112) cx hw hin12c (by decide) (by decide) (List.mem_cons_of_mem _ mm_555) dX12_stepTry_70 ?_
  refine lv_iload_n cx.1 cx.2.1 dX12_stepTry_73 rfl (lv_at hl 2 rfl) ?_
  obtain ⟨v8, e_v8, h⟩ := md_ob h
  refine md_lI (k := 112) hj cx hw (by decide) rfl rfl rfl e_v8 dX12_stepTry_74 ?_
  refine lv_imul cx.1 cx.2.1 dX12_stepTry_75 ?_
  obtain ⟨v9, e_v9, h⟩ := md_ob h
  refine md_lI (k := 76) hj cx hw (by decide) rfl rfl rfl e_v9 dX12_stepTry_76 ?_
  refine lv_iload_n cx.1 cx.2.1 dX12_stepTry_77 rfl (lv_at hl 3 rfl) ?_
  refine lv_iadd cx.1 cx.2.1 dX12_stepTry_78 ?_
  obtain ⟨σ10, e_σ10, h⟩ := md_ob h
  refine md_sI (k := 126) hj cx hw (by decide) rfl rfl rfl e_σ10 dX12_stepTry_79 (fun H locs hw => ?_)
  refine lv_aload_n cx.1 cx.2.1 dX12_stepTry_80 rfl (lv_at hl 1 rfl) ?_
  refine md_gR (k := 123) cx hw hin12c (by decide) (by decide) (List.mem_cons_of_mem _ mm_546) dX12_stepTry_81 ?_
  refine lv_aload_n cx.1 cx.2.1 dX12_stepTry_84 rfl (lv_at hl 1 rfl) ?_
  refine md_gI (k := 127) cx hw hin12c rfl (by decide) (List.mem_cons_of_mem _ mm_538) dX12_stepTry_85 ?_
  refine lv_dup2_11 cx.1 cx.2.1 dX12_stepTry_88 rfl rfl ?_
  obtain ⟨v11, e_v11, h⟩ := md_ob h
  refine md_lI (k := 123) hj cx hw (by decide) rfl rfl rfl e_v11 dX12_stepTry_89 ?_
  refine lv_iconst (v := 1) cx.1 cx.2.1 dX12_stepTry_90 (by decide) ?_
  refine lv_iadd cx.1 cx.2.1 dX12_stepTry_91 ?_
  obtain ⟨σ12, e_σ12, h⟩ := md_ob h
  refine md_sI (k := 123) hj cx hw (by decide) rfl rfl rfl e_σ12 dX12_stepTry_92 (fun H locs hw => ?_)
  exact hp_vret cx hw (md_retv h) dX12_stepTry_93
set_option maxHeartbeats 4000000 in
set_option maxRecDepth 100000 in
theorem km_X12_step (l : Launch) (D : va_G) (cA : Nat → ClassId) (E : hp_N) (sz : Nat) (ad : Nat → Nat) (hj : md_inj ad) (hE : md_E E) (n : Nat) (σ0 : md_S) (p : (Int32 × md_S)) (h : f_X12_step n σ0 = some p) : Met l yX12_step (Cond.code yX12_step cX12_step 7 none :: v_MOD) ({ frames := 6, cells := 0, slots := 0, locals := 152 }) (hp_Pc D vwCl (hp_Tl cA) E sz (md_pic cA ad σ0) [.ref (ad 137)]) (hp_Qv D vwCl (hp_Tl cA) sz (md_pic cA ad σ0) (fun u => u = md_pic cA ad p.2)) 0 0 (hp_A (md_pic cA ad σ0) sz) := by
  refine hp_ofW (cc := cX12_step) (maxL := 7) (ret := none) (by decide) rfl (Nat.le_of_ble_eq_true rfl) ?_
  intro pp ee ss mm bb mt cd ls cx hsz hw hl
  have hl : lv_has ls 7 [(0, .ref (ad 137))] := hl
  have J405 : ∀ (σ : md_S) (l1 : Int32) (l2 : Int32) (l3 : Int32) (l4 : Int32) (H : Heap) (locs : List Loc) (ls : Array Slot), f_X12_step_J405 n σ l1 l2 l3 l4 = some p → hp_w D vwCl (hp_Tl cA) E (hp_A (md_pic cA ad σ0) sz) ss H locs (md_pic cA ad σ) → lv_has ls 7 [(0, .ref (ad 137)), (1, .int l1), (2, .int l2), (3, .int l3), (4, .int l4)] → W pp l ee ({ frames := 6, cells := 0, slots := 0, locals := 152 }) ss mm [.ref (ad 137)].toArray bb mt cd H locs 0 0 (MQ bb (hp_Qv D vwCl (hp_Tl cA) sz (md_pic cA ad σ0) (fun u => u = md_pic cA ad p.2)) [.ref (ad 137)].toArray ss 0 0 (hp_A (md_pic cA ad σ0) sz)) (F0 mm 405 ls []) := by
    intro σ l1 l2 l3 l4 H locs ls h hw hl
    refine lv_aload_n cx.1 cx.2.1 dX12_step_405 rfl (lv_at hl 0 rfl) ?_
    refine lv_iload_n cx.1 cx.2.1 dX12_step_406 rfl (lv_at hl 1 rfl) ?_
    refine lv_iload_n cx.1 cx.2.1 dX12_step_407 rfl (lv_at hl 3 rfl) ?_
    refine lv_iload cx.1 cx.2.1 dX12_step_408 (lv_at hl 4 rfl) ?_
    refine lv_iload_n cx.1 cx.2.1 dX12_step_410 rfl (lv_at hl 2 rfl) ?_
    obtain ⟨p1, e_p1, h⟩ := md_ob h
    refine hp_callVv (As := [.int l1, .int l3, .int l4, .int l2]) (rest := []) cx hw (km_X12_stepOther l D cA E _ ad hj hE n σ l1 l3 l4 l2 p1 e_p1) (cwV 4 cx.2.2.2.2.2.1 (md_giV mm_702 mm_703 mm_704 mm_5 mm_705) rfl rfl rfl hd_X12_stepOther ⟨Nat.le_of_ble_eq_true rfl, Nat.le_of_ble_eq_true rfl⟩) md_at0 rfl rfl hl.1 rfl (Nat.le_of_ble_eq_true rfl) dX12_step_411 ⟨Nat.le_refl _, Nat.le_refl _⟩ (fun u H locs hp hw => ?_)
    obtain rfl := hp
    exact hp_vret cx hw (md_retv h) dX12_step_414
  refine lv_aload_n cx.1 cx.2.1 dX12_step_0 rfl (lv_at hl 0 rfl) ?_
  obtain ⟨p2, e_p2, h⟩ := md_ob h
  refine hp_callVi (As := []) (rest := []) cx hw (km_X12_frameAt l D cA E _ ad hj hE n σ0  p2 e_p2) (cwV 0 cx.2.2.2.2.2.1 (md_giV mm_551 mm_552 mm_553 mm_5 mm_554) rfl rfl rfl hd_X12_frameAt ⟨Nat.le_of_ble_eq_true rfl, Nat.le_of_ble_eq_true rfl⟩) md_at0 rfl rfl hl.1 rfl (Nat.le_of_ble_eq_true rfl) dX12_step_1 ⟨Nat.le_refl _, Nat.le_refl _⟩ (fun r u H locs hp hw => ?_)
  obtain ⟨rfl, rfl⟩ := hp
  refine lv_istore_n (lv' := [(1, .int p2.1), (0, .ref (ad 137))]) cx.1 cx.2.1 dX12_step_4 rfl hl (by decide) rfl (fun ls hl => ?_)
  refine lv_aload_n cx.1 cx.2.1 dX12_step_5 rfl (lv_at hl 1 rfl) ?_
  refine md_gR (k := 113) cx hw hin12c (by decide) (by decide) (List.mem_cons_of_mem _ mm_556) dX12_step_6 ?_
  refine lv_iload_n cx.1 cx.2.1 dX12_step_9 rfl (lv_at hl 0 rfl) ?_
  obtain ⟨v3, e_v3, h⟩ := md_ob h
  refine md_lI (k := 113) hj cx hw (by decide) rfl rfl rfl e_v3 dX12_step_10 ?_
  refine lv_istore_n (lv' := [(2, .int v3), (1, .int p2.1), (0, .ref (ad 137))]) cx.1 cx.2.1 dX12_step_11 rfl hl (by decide) rfl (fun ls hl => ?_)
  refine lv_aload_n cx.1 cx.2.1 dX12_step_12 rfl (lv_at hl 2 rfl) ?_
  refine md_gR (k := 74) cx hw hin12c (by decide) (by decide) (List.mem_cons_of_mem _ mm_393) dX12_step_13 ?_
  refine lv_iload_n cx.1 cx.2.1 dX12_step_16 rfl (lv_at hl 0 rfl) ?_
  obtain ⟨v4, e_v4, h⟩ := md_ob h
  refine md_lB (k := 74) hj cx hw (by decide) rfl rfl rfl e_v4 dX12_step_17 ?_
  refine lv_sipush (v := 255) cx.1 cx.2.1 dX12_step_18 (by decide) ?_
  refine lv_iand cx.1 cx.2.1 dX12_step_21 ?_
  refine lv_istore_n (lv' := [(3, .int (v4 &&& 255)), (2, .int v3), (1, .int p2.1), (0, .ref (ad 137))]) cx.1 cx.2.1 dX12_step_22 rfl hl (by decide) rfl (fun ls hl => ?_)
  refine lv_aload_n cx.1 cx.2.1 dX12_step_23 rfl (lv_at hl 3 rfl) ?_
  refine lv_iload_n cx.1 cx.2.1 dX12_step_24 rfl (lv_at hl 1 rfl) ?_
  refine lv_iconst (v := 1) cx.1 cx.2.1 dX12_step_25 (by decide) ?_
  refine lv_iadd cx.1 cx.2.1 dX12_step_26 ?_
  obtain ⟨p5, e_p5, h⟩ := md_ob h
  refine hp_callVi (As := [.int (v3 + 1)]) (rest := []) cx hw (km_X12_wordAt l D cA E _ ad hj hE n p2.2 ((v3 + 1)) p5 e_p5) (cwV 1 cx.2.2.2.2.2.1 (md_giV mm_654 mm_655 mm_656 mm_5 mm_657) rfl rfl rfl hd_X12_wordAt ⟨Nat.le_of_ble_eq_true rfl, Nat.le_of_ble_eq_true rfl⟩) md_at0 rfl rfl hl.1 rfl (Nat.le_of_ble_eq_true rfl) dX12_step_27 ⟨Nat.le_refl _, Nat.le_refl _⟩ (fun r u H locs hp hw => ?_)
  obtain ⟨rfl, rfl⟩ := hp
  refine lv_istore (lv' := [(4, .int p5.1), (3, .int (v4 &&& 255)), (2, .int v3), (1, .int p2.1), (0, .ref (ad 137))]) cx.1 cx.2.1 dX12_step_30 hl (by decide) rfl (fun ls hl => ?_)
  refine lv_iload_n cx.1 cx.2.1 dX12_step_32 rfl (lv_at hl 1 rfl) ?_
  by_cases c33_0 : (v4 &&& 255) = 0
  · refine lv_tableIn (off := 131) (tgt := 164) cx.1 cx.2.1 dX12_step_33 (by rw [c33_0]; decide) (by rw [c33_0]; decide) (by rw [c33_0]; decide) (by decide) ?_
    have h := md_ip c33_0 h
    refine lv_aload_n cx.1 cx.2.1 dX12_step_164 rfl (lv_at hl 4 rfl) ?_
    refine md_gR (k := 113) cx hw hin12c (by decide) (by decide) (List.mem_cons_of_mem _ mm_556) dX12_step_165 ?_
    refine lv_iload_n cx.1 cx.2.1 dX12_step_168 rfl (lv_at hl 3 rfl) ?_
    refine lv_dup2_11 cx.1 cx.2.1 dX12_step_169 rfl rfl ?_
    obtain ⟨v6, e_v6, h⟩ := md_ob h
    refine md_lI (k := 113) hj cx hw (by decide) rfl rfl rfl e_v6 dX12_step_170 ?_
    refine lv_iconst (v := 3) cx.1 cx.2.1 dX12_step_171 (by decide) ?_
    refine lv_iadd cx.1 cx.2.1 dX12_step_172 ?_
    obtain ⟨σ7, e_σ7, h⟩ := md_ob h
    refine md_sI (k := 113) hj cx hw (by decide) rfl rfl rfl e_σ7 dX12_step_173 (fun H locs hw => ?_)
    refine lv_aload_n cx.1 cx.2.1 dX12_step_174 rfl (lv_at hl 4 rfl) ?_
    refine lv_iconst (v := 0) cx.1 cx.2.1 dX12_step_175 (by decide) ?_
    refine lv_aload_n cx.1 cx.2.1 dX12_step_176 rfl (lv_at hl 4 rfl) ?_
    refine md_gR (k := 59) cx hw hin12c (by decide) (by decide) (List.mem_cons_of_mem _ mm_276) dX12_step_177 ?_
    refine lv_iload cx.1 cx.2.1 dX12_step_180 (lv_at hl 0 rfl) ?_
    obtain ⟨v8, e_v8, h⟩ := md_ob h
    refine md_lI (k := 59) hj cx hw (by decide) rfl rfl rfl e_v8 dX12_step_182 ?_
    obtain ⟨p9, e_p9, h⟩ := md_ob h
    refine hp_callVv (As := [.int 0, .int v8]) (rest := []) cx hw (km_X12_push l D cA E _ ad hj hE n σ7 (0 : Int32) v8 p9 e_p9) (cwV 2 cx.2.2.2.2.2.1 (md_giV mm_558 mm_559 mm_560 mm_5 mm_561) rfl rfl rfl hd_X12_push ⟨Nat.le_of_ble_eq_true rfl, Nat.le_of_ble_eq_true rfl⟩) md_at0 rfl rfl hl.1 rfl (Nat.le_of_ble_eq_true rfl) dX12_step_183 ⟨Nat.le_refl _, Nat.le_refl _⟩ (fun u H locs hp hw => ?_)
    obtain rfl := hp
    refine lv_goto (tgt := 414) cx.1 cx.2.1 dX12_step_186 (by decide) ?_
    exact hp_vret cx hw (md_retv h) dX12_step_414
  have h := md_in c33_0 h
  by_cases c33_1 : (v4 &&& 255) = 1
  · refine lv_tableIn (off := 156) (tgt := 189) cx.1 cx.2.1 dX12_step_33 (by rw [c33_1]; decide) (by rw [c33_1]; decide) (by rw [c33_1]; decide) (by decide) ?_
    have h := md_ip c33_1 h
    refine lv_aload_n cx.1 cx.2.1 dX12_step_189 rfl (lv_at hl 4 rfl) ?_
    refine md_gR (k := 113) cx hw hin12c (by decide) (by decide) (List.mem_cons_of_mem _ mm_556) dX12_step_190 ?_
    refine lv_iload_n cx.1 cx.2.1 dX12_step_193 rfl (lv_at hl 3 rfl) ?_
    refine lv_dup2_11 cx.1 cx.2.1 dX12_step_194 rfl rfl ?_
    obtain ⟨v10, e_v10, h⟩ := md_ob h
    refine md_lI (k := 113) hj cx hw (by decide) rfl rfl rfl e_v10 dX12_step_195 ?_
    refine lv_iconst (v := 1) cx.1 cx.2.1 dX12_step_196 (by decide) ?_
    refine lv_iadd cx.1 cx.2.1 dX12_step_197 ?_
    obtain ⟨σ11, e_σ11, h⟩ := md_ob h
    refine md_sI (k := 113) hj cx hw (by decide) rfl rfl rfl e_σ11 dX12_step_198 (fun H locs hw => ?_)
    refine lv_aload_n cx.1 cx.2.1 dX12_step_199 rfl (lv_at hl 4 rfl) ?_
    refine lv_iconst (v := 1) cx.1 cx.2.1 dX12_step_200 (by decide) ?_
    refine lv_iconst (v := 0) cx.1 cx.2.1 dX12_step_201 (by decide) ?_
    obtain ⟨p12, e_p12, h⟩ := md_ob h
    refine hp_callVv (As := [.int 1, .int 0]) (rest := []) cx hw (km_X12_push l D cA E _ ad hj hE n σ11 (1 : Int32) (0 : Int32) p12 e_p12) (cwV 2 cx.2.2.2.2.2.1 (md_giV mm_558 mm_559 mm_560 mm_5 mm_561) rfl rfl rfl hd_X12_push ⟨Nat.le_of_ble_eq_true rfl, Nat.le_of_ble_eq_true rfl⟩) md_at0 rfl rfl hl.1 rfl (Nat.le_of_ble_eq_true rfl) dX12_step_202 ⟨Nat.le_refl _, Nat.le_refl _⟩ (fun u H locs hp hw => ?_)
    obtain rfl := hp
    refine lv_goto (tgt := 414) cx.1 cx.2.1 dX12_step_205 (by decide) ?_
    exact hp_vret cx hw (md_retv h) dX12_step_414
  have h := md_in c33_1 h
  by_cases c33_2 : (v4 &&& 255) = 2
  · refine lv_tableIn (off := 175) (tgt := 208) cx.1 cx.2.1 dX12_step_33 (by rw [c33_2]; decide) (by rw [c33_2]; decide) (by rw [c33_2]; decide) (by decide) ?_
    have h := md_ip c33_2 h
    refine lv_aload_n cx.1 cx.2.1 dX12_step_208 rfl (lv_at hl 4 rfl) ?_
    refine md_gR (k := 113) cx hw hin12c (by decide) (by decide) (List.mem_cons_of_mem _ mm_556) dX12_step_209 ?_
    refine lv_iload_n cx.1 cx.2.1 dX12_step_212 rfl (lv_at hl 3 rfl) ?_
    refine lv_dup2_11 cx.1 cx.2.1 dX12_step_213 rfl rfl ?_
    obtain ⟨v13, e_v13, h⟩ := md_ob h
    refine md_lI (k := 113) hj cx hw (by decide) rfl rfl rfl e_v13 dX12_step_214 ?_
    refine lv_iconst (v := 3) cx.1 cx.2.1 dX12_step_215 (by decide) ?_
    refine lv_iadd cx.1 cx.2.1 dX12_step_216 ?_
    obtain ⟨σ14, e_σ14, h⟩ := md_ob h
    refine md_sI (k := 113) hj cx hw (by decide) rfl rfl rfl e_σ14 dX12_step_217 (fun H locs hw => ?_)
    refine lv_aload_n cx.1 cx.2.1 dX12_step_218 rfl (lv_at hl 4 rfl) ?_
    refine lv_aload_n cx.1 cx.2.1 dX12_step_219 rfl (lv_at hl 4 rfl) ?_
    refine md_gR (k := 118) cx hw hin12c (by decide) (by decide) (List.mem_cons_of_mem _ mm_570) dX12_step_220 ?_
    refine lv_sipush (v := 12600) cx.1 cx.2.1 dX12_step_223 (by decide) ?_
    refine lv_aload_n cx.1 cx.2.1 dX12_step_226 rfl (lv_at hl 4 rfl) ?_
    refine md_gI (k := 127) cx hw hin12c rfl (by decide) (List.mem_cons_of_mem _ mm_538) dX12_step_227 ?_
    refine lv_imul cx.1 cx.2.1 dX12_step_230 ?_
    refine lv_aload_n cx.1 cx.2.1 dX12_step_231 rfl (lv_at hl 4 rfl) ?_
    refine md_gR (k := 114) cx hw hin12c (by decide) (by decide) (List.mem_cons_of_mem _ mm_550) dX12_step_232 ?_
    refine lv_iload_n cx.1 cx.2.1 dX12_step_235 rfl (lv_at hl 3 rfl) ?_
    obtain ⟨v15, e_v15, h⟩ := md_ob h
    refine md_lI (k := 114) hj cx hw (by decide) rfl rfl rfl e_v15 dX12_step_236 ?_
    refine lv_iadd cx.1 cx.2.1 dX12_step_237 ?_
    refine lv_iload cx.1 cx.2.1 dX12_step_238 (lv_at hl 0 rfl) ?_
    refine lv_iadd cx.1 cx.2.1 dX12_step_240 ?_
    obtain ⟨v16, e_v16, h⟩ := md_ob h
    refine md_lI (k := 118) hj cx hw (by decide) rfl rfl rfl e_v16 dX12_step_241 ?_
    refine lv_aload_n cx.1 cx.2.1 dX12_step_242 rfl (lv_at hl 4 rfl) ?_
    refine md_gR (k := 119) cx hw hin12c (by decide) (by decide) (List.mem_cons_of_mem _ mm_571) dX12_step_243 ?_
    refine lv_sipush (v := 12600) cx.1 cx.2.1 dX12_step_246 (by decide) ?_
    refine lv_aload_n cx.1 cx.2.1 dX12_step_249 rfl (lv_at hl 4 rfl) ?_
    refine md_gI (k := 127) cx hw hin12c rfl (by decide) (List.mem_cons_of_mem _ mm_538) dX12_step_250 ?_
    refine lv_imul cx.1 cx.2.1 dX12_step_253 ?_
    refine lv_aload_n cx.1 cx.2.1 dX12_step_254 rfl (lv_at hl 4 rfl) ?_
    refine md_gR (k := 114) cx hw hin12c (by decide) (by decide) (List.mem_cons_of_mem _ mm_550) dX12_step_255 ?_
    refine lv_iload_n cx.1 cx.2.1 dX12_step_258 rfl (lv_at hl 3 rfl) ?_
    obtain ⟨v17, e_v17, h⟩ := md_ob h
    refine md_lI (k := 114) hj cx hw (by decide) rfl rfl rfl e_v17 dX12_step_259 ?_
    refine lv_iadd cx.1 cx.2.1 dX12_step_260 ?_
    refine lv_iload cx.1 cx.2.1 dX12_step_261 (lv_at hl 0 rfl) ?_
    refine lv_iadd cx.1 cx.2.1 dX12_step_263 ?_
    obtain ⟨v18, e_v18, h⟩ := md_ob h
    refine md_lI (k := 119) hj cx hw (by decide) rfl rfl rfl e_v18 dX12_step_264 ?_
    obtain ⟨p19, e_p19, h⟩ := md_ob h
    refine hp_callVv (As := [.int v16, .int v18]) (rest := []) cx hw (km_X12_push l D cA E _ ad hj hE n σ14 v16 v18 p19 e_p19) (cwV 2 cx.2.2.2.2.2.1 (md_giV mm_558 mm_559 mm_560 mm_5 mm_561) rfl rfl rfl hd_X12_push ⟨Nat.le_of_ble_eq_true rfl, Nat.le_of_ble_eq_true rfl⟩) md_at0 rfl rfl hl.1 rfl (Nat.le_of_ble_eq_true rfl) dX12_step_265 ⟨Nat.le_refl _, Nat.le_refl _⟩ (fun u H locs hp hw => ?_)
    obtain rfl := hp
    refine lv_goto (tgt := 414) cx.1 cx.2.1 dX12_step_268 (by decide) ?_
    exact hp_vret cx hw (md_retv h) dX12_step_414
  have h := md_in c33_2 h
  by_cases c33_3 : (v4 &&& 255) = 3
  · refine lv_tableIn (off := 238) (tgt := 271) cx.1 cx.2.1 dX12_step_33 (by rw [c33_3]; decide) (by rw [c33_3]; decide) (by rw [c33_3]; decide) (by decide) ?_
    have h := md_ip c33_3 h
    refine lv_aload_n cx.1 cx.2.1 dX12_step_271 rfl (lv_at hl 4 rfl) ?_
    refine md_gR (k := 113) cx hw hin12c (by decide) (by decide) (List.mem_cons_of_mem _ mm_556) dX12_step_272 ?_
    refine lv_iload_n cx.1 cx.2.1 dX12_step_275 rfl (lv_at hl 3 rfl) ?_
    refine lv_dup2_11 cx.1 cx.2.1 dX12_step_276 rfl rfl ?_
    obtain ⟨v20, e_v20, h⟩ := md_ob h
    refine md_lI (k := 113) hj cx hw (by decide) rfl rfl rfl e_v20 dX12_step_277 ?_
    refine lv_iconst (v := 3) cx.1 cx.2.1 dX12_step_278 (by decide) ?_
    refine lv_iadd cx.1 cx.2.1 dX12_step_279 ?_
    obtain ⟨σ21, e_σ21, h⟩ := md_ob h
    refine md_sI (k := 113) hj cx hw (by decide) rfl rfl rfl e_σ21 dX12_step_280 (fun H locs hw => ?_)
    refine lv_aload_n cx.1 cx.2.1 dX12_step_281 rfl (lv_at hl 4 rfl) ?_
    obtain ⟨p22, e_p22, h⟩ := md_ob h
    refine hp_callVi (As := []) (rest := []) cx hw (km_X12_pop l D cA E _ ad hj hE n σ21  p22 e_p22) (cwV 0 cx.2.2.2.2.2.1 (md_giV mm_613 mm_614 mm_615 mm_5 mm_616) rfl rfl rfl hd_X12_pop ⟨Nat.le_of_ble_eq_true rfl, Nat.le_of_ble_eq_true rfl⟩) md_at0 rfl rfl hl.1 rfl (Nat.le_of_ble_eq_true rfl) dX12_step_282 ⟨Nat.le_refl _, Nat.le_refl _⟩ (fun r u H locs hp hw => ?_)
    obtain ⟨rfl, rfl⟩ := hp
    refine lv_istore (lv' := [(5, .int p22.1), (4, .int p5.1), (3, .int (v4 &&& 255)), (2, .int v3), (1, .int p2.1), (0, .ref (ad 137))]) cx.1 cx.2.1 dX12_step_285 hl (by decide) rfl (fun ls hl => ?_)
    refine lv_aload_n cx.1 cx.2.1 dX12_step_287 rfl (lv_at hl 5 rfl) ?_
    refine lv_aload_n cx.1 cx.2.1 dX12_step_288 rfl (lv_at hl 5 rfl) ?_
    refine md_gI (k := 127) cx hw hin12c rfl (by decide) (List.mem_cons_of_mem _ mm_538) dX12_step_289 ?_
    refine lv_iload_n cx.1 cx.2.1 dX12_step_292 rfl (lv_at hl 4 rfl) ?_
    refine lv_iload cx.1 cx.2.1 dX12_step_293 (lv_at hl 1 rfl) ?_
    refine lv_iload cx.1 cx.2.1 dX12_step_295 (lv_at hl 0 rfl) ?_
    refine lv_aload_n cx.1 cx.2.1 dX12_step_297 rfl (lv_at hl 5 rfl) ?_
    refine md_gI (k := 135) cx hw hin12c rfl (by decide) (List.mem_cons_of_mem _ mm_543) dX12_step_298 ?_
    obtain ⟨p23, e_p23, h⟩ := md_ob h
    refine hp_callVv (As := [.int (mI p22.2 127), .int p2.1, .int p5.1, .int p22.1, .int (mI p22.2 135)]) (rest := []) cx hw (km_X12_setLocal l D cA E _ ad hj hE n p22.2 ((mI p22.2 127)) (p2.1) (p5.1) (p22.1) ((mI p22.2 135)) p23 e_p23) (cwV 5 cx.2.2.2.2.2.1 (md_giV mm_589 mm_590 mm_591 mm_5 mm_592) rfl rfl rfl hd_X12_setLocal ⟨Nat.le_of_ble_eq_true rfl, Nat.le_of_ble_eq_true rfl⟩) md_at0 rfl rfl hl.1 rfl (Nat.le_of_ble_eq_true rfl) dX12_step_301 ⟨Nat.le_refl _, Nat.le_refl _⟩ (fun u H locs hp hw => ?_)
    obtain rfl := hp
    refine lv_goto (tgt := 414) cx.1 cx.2.1 dX12_step_304 (by decide) ?_
    exact hp_vret cx hw (md_retv h) dX12_step_414
  have h := md_in c33_3 h
  by_cases c33_16 : (v4 &&& 255) = 16
  · refine lv_tableIn (off := 274) (tgt := 307) cx.1 cx.2.1 dX12_step_33 (by rw [c33_16]; decide) (by rw [c33_16]; decide) (by rw [c33_16]; decide) (by decide) ?_
    have h := md_ip c33_16 h
    refine lv_aload_n cx.1 cx.2.1 dX12_step_307 rfl (lv_at hl 4 rfl) ?_
    refine md_gR (k := 113) cx hw hin12c (by decide) (by decide) (List.mem_cons_of_mem _ mm_556) dX12_step_308 ?_
    refine lv_iload_n cx.1 cx.2.1 dX12_step_311 rfl (lv_at hl 3 rfl) ?_
    refine lv_dup2_11 cx.1 cx.2.1 dX12_step_312 rfl rfl ?_
    obtain ⟨v24, e_v24, h⟩ := md_ob h
    refine md_lI (k := 113) hj cx hw (by decide) rfl rfl rfl e_v24 dX12_step_313 ?_
    refine lv_iconst (v := 1) cx.1 cx.2.1 dX12_step_314 (by decide) ?_
    refine lv_iadd cx.1 cx.2.1 dX12_step_315 ?_
    obtain ⟨σ25, e_σ25, h⟩ := md_ob h
    refine md_sI (k := 113) hj cx hw (by decide) rfl rfl rfl e_σ25 dX12_step_316 (fun H locs hw => ?_)
    refine lv_aload_n cx.1 cx.2.1 dX12_step_317 rfl (lv_at hl 4 rfl) ?_
    obtain ⟨p26, e_p26, h⟩ := md_ob h
    refine hp_callVi (As := []) (rest := []) cx hw (km_X12_pop l D cA E _ ad hj hE n σ25  p26 e_p26) (cwV 0 cx.2.2.2.2.2.1 (md_giV mm_613 mm_614 mm_615 mm_5 mm_616) rfl rfl rfl hd_X12_pop ⟨Nat.le_of_ble_eq_true rfl, Nat.le_of_ble_eq_true rfl⟩) md_at0 rfl rfl hl.1 rfl (Nat.le_of_ble_eq_true rfl) dX12_step_318 ⟨Nat.le_refl _, Nat.le_refl _⟩ (fun r u H locs hp hw => ?_)
    obtain ⟨rfl, rfl⟩ := hp
    refine lv_istore (lv' := [(6, .int p26.1), (4, .int p5.1), (3, .int (v4 &&& 255)), (2, .int v3), (1, .int p2.1), (0, .ref (ad 137))]) cx.1 cx.2.1 dX12_step_321 hl (by decide) rfl (fun ls hl => ?_)
    refine lv_goto (tgt := 414) cx.1 cx.2.1 dX12_step_323 (by decide) ?_
    exact hp_vret cx hw (md_retv h) dX12_step_414
  have h := md_in c33_16 h
  by_cases c33_17 : (v4 &&& 255) = 17
  · refine lv_tableIn (off := 293) (tgt := 326) cx.1 cx.2.1 dX12_step_33 (by rw [c33_17]; decide) (by rw [c33_17]; decide) (by rw [c33_17]; decide) (by decide) ?_
    have h := md_ip c33_17 h
    refine lv_aload_n cx.1 cx.2.1 dX12_step_326 rfl (lv_at hl 4 rfl) ?_
    refine md_gR (k := 113) cx hw hin12c (by decide) (by decide) (List.mem_cons_of_mem _ mm_556) dX12_step_327 ?_
    refine lv_iload_n cx.1 cx.2.1 dX12_step_330 rfl (lv_at hl 3 rfl) ?_
    refine lv_aload_n cx.1 cx.2.1 dX12_step_331 rfl (lv_at hl 4 rfl) ?_
    refine md_gR (k := 76) cx hw hin12c (by decide) (by decide) (List.mem_cons_of_mem _ mm_415) dX12_step_332 ?_
    refine lv_iconst (v := 2) cx.1 cx.2.1 dX12_step_335 (by decide) ?_
    refine lv_aload_n cx.1 cx.2.1 dX12_step_336 rfl (lv_at hl 4 rfl) ?_
    refine md_gR (k := 112) cx hw hin12c (by decide) (by decide) (List.mem_cons_of_mem _ mm_555) dX12_step_337 ?_
    refine lv_iload_n cx.1 cx.2.1 dX12_step_340 rfl (lv_at hl 3 rfl) ?_
    obtain ⟨v27, e_v27, h⟩ := md_ob h
    refine md_lI (k := 112) hj cx hw (by decide) rfl rfl rfl e_v27 dX12_step_341 ?_
    refine lv_imul cx.1 cx.2.1 dX12_step_342 ?_
    obtain ⟨v28, e_v28, h⟩ := md_ob h
    refine md_lI (k := 76) hj cx hw (by decide) rfl rfl rfl e_v28 dX12_step_343 ?_
    refine lv_iload cx.1 cx.2.1 dX12_step_344 (lv_at hl 0 rfl) ?_
    refine lv_iadd cx.1 cx.2.1 dX12_step_346 ?_
    obtain ⟨σ29, e_σ29, h⟩ := md_ob h
    refine md_sI (k := 113) hj cx hw (by decide) rfl rfl rfl e_σ29 dX12_step_347 (fun H locs hw => ?_)
    refine lv_goto (tgt := 414) cx.1 cx.2.1 dX12_step_348 (by decide) ?_
    exact hp_vret cx hw (md_retv h) dX12_step_414
  have h := md_in c33_17 h
  by_cases c33_18 : (v4 &&& 255) = 18
  · refine lv_tableIn (off := 318) (tgt := 351) cx.1 cx.2.1 dX12_step_33 (by rw [c33_18]; decide) (by rw [c33_18]; decide) (by rw [c33_18]; decide) (by decide) ?_
    have h := md_ip c33_18 h
    refine lv_aload_n cx.1 cx.2.1 dX12_step_351 rfl (lv_at hl 4 rfl) ?_
    refine lv_iload_n cx.1 cx.2.1 dX12_step_352 rfl (lv_at hl 3 rfl) ?_
    refine lv_iload cx.1 cx.2.1 dX12_step_353 (lv_at hl 0 rfl) ?_
    obtain ⟨p30, e_p30, h⟩ := md_ob h
    refine hp_callVv (As := [.int p2.1, .int p5.1]) (rest := []) cx hw (km_X12_stepIf l D cA E _ ad hj hE n p5.2 (p2.1) (p5.1) p30 e_p30) (cwV 2 cx.2.2.2.2.2.1 (md_giV mm_690 mm_691 mm_692 mm_5 mm_693) rfl rfl rfl hd_X12_stepIf ⟨Nat.le_of_ble_eq_true rfl, Nat.le_of_ble_eq_true rfl⟩) md_at0 rfl rfl hl.1 rfl (Nat.le_of_ble_eq_true rfl) dX12_step_355 ⟨Nat.le_refl _, Nat.le_refl _⟩ (fun u H locs hp hw => ?_)
    obtain rfl := hp
    refine lv_goto (tgt := 414) cx.1 cx.2.1 dX12_step_358 (by decide) ?_
    exact hp_vret cx hw (md_retv h) dX12_step_414
  have h := md_in c33_18 h
  by_cases c33_19 : (v4 &&& 255) = 19
  · refine lv_tableIn (off := 328) (tgt := 361) cx.1 cx.2.1 dX12_step_33 (by rw [c33_19]; decide) (by rw [c33_19]; decide) (by rw [c33_19]; decide) (by decide) ?_
    have h := md_ip c33_19 h
    refine lv_aload_n cx.1 cx.2.1 dX12_step_361 rfl (lv_at hl 4 rfl) ?_
    refine lv_iload_n cx.1 cx.2.1 dX12_step_362 rfl (lv_at hl 3 rfl) ?_
    refine lv_iload cx.1 cx.2.1 dX12_step_363 (lv_at hl 0 rfl) ?_
    obtain ⟨p31, e_p31, h⟩ := md_ob h
    refine hp_callVv (As := [.int p2.1, .int p5.1]) (rest := []) cx hw (km_X12_stepTry l D cA E _ ad hj hE n p5.2 (p2.1) (p5.1) p31 e_p31) (cwV 2 cx.2.2.2.2.2.1 (md_giV mm_694 mm_695 mm_696 mm_5 mm_697) rfl rfl rfl hd_X12_stepTry ⟨Nat.le_of_ble_eq_true rfl, Nat.le_of_ble_eq_true rfl⟩) md_at0 rfl rfl hl.1 rfl (Nat.le_of_ble_eq_true rfl) dX12_step_365 ⟨Nat.le_refl _, Nat.le_refl _⟩ (fun u H locs hp hw => ?_)
    obtain rfl := hp
    refine lv_goto (tgt := 414) cx.1 cx.2.1 dX12_step_368 (by decide) ?_
    exact hp_vret cx hw (md_retv h) dX12_step_414
  have h := md_in c33_19 h
  by_cases c33_20 : (v4 &&& 255) = 20
  · refine lv_tableIn (off := 338) (tgt := 371) cx.1 cx.2.1 dX12_step_33 (by rw [c33_20]; decide) (by rw [c33_20]; decide) (by rw [c33_20]; decide) (by decide) ?_
    have h := md_ip c33_20 h
    refine lv_aload_n cx.1 cx.2.1 dX12_step_371 rfl (lv_at hl 4 rfl) ?_
    refine md_gR (k := 113) cx hw hin12c (by decide) (by decide) (List.mem_cons_of_mem _ mm_556) dX12_step_372 ?_
    refine lv_iload_n cx.1 cx.2.1 dX12_step_375 rfl (lv_at hl 3 rfl) ?_
    refine lv_dup2_11 cx.1 cx.2.1 dX12_step_376 rfl rfl ?_
    obtain ⟨v32, e_v32, h⟩ := md_ob h
    refine md_lI (k := 113) hj cx hw (by decide) rfl rfl rfl e_v32 dX12_step_377 ?_
    refine lv_iconst (v := 1) cx.1 cx.2.1 dX12_step_378 (by decide) ?_
    refine lv_iadd cx.1 cx.2.1 dX12_step_379 ?_
    obtain ⟨σ33, e_σ33, h⟩ := md_ob h
    refine md_sI (k := 113) hj cx hw (by decide) rfl rfl rfl e_σ33 dX12_step_380 (fun H locs hw => ?_)
    refine lv_aload_n cx.1 cx.2.1 dX12_step_381 rfl (lv_at hl 4 rfl) ?_
    refine md_gR (k := 123) cx hw hin12c (by decide) (by decide) (List.mem_cons_of_mem _ mm_546) dX12_step_382 ?_
    refine lv_aload_n cx.1 cx.2.1 dX12_step_385 rfl (lv_at hl 4 rfl) ?_
    refine md_gI (k := 127) cx hw hin12c rfl (by decide) (List.mem_cons_of_mem _ mm_538) dX12_step_386 ?_
    refine lv_dup2_11 cx.1 cx.2.1 dX12_step_389 rfl rfl ?_
    obtain ⟨v34, e_v34, h⟩ := md_ob h
    refine md_lI (k := 123) hj cx hw (by decide) rfl rfl rfl e_v34 dX12_step_390 ?_
    refine lv_iconst (v := 1) cx.1 cx.2.1 dX12_step_391 (by decide) ?_
    refine lv_isub cx.1 cx.2.1 dX12_step_392 ?_
    obtain ⟨σ35, e_σ35, h⟩ := md_ob h
    refine md_sI (k := 123) hj cx hw (by decide) rfl rfl rfl e_σ35 dX12_step_393 (fun H locs hw => ?_)
    refine lv_goto (tgt := 414) cx.1 cx.2.1 dX12_step_394 (by decide) ?_
    exact hp_vret cx hw (md_retv h) dX12_step_414
  have h := md_in c33_20 h
  by_cases c33_28 : (v4 &&& 255) = 28
  · refine lv_tableIn (off := 364) (tgt := 397) cx.1 cx.2.1 dX12_step_33 (by rw [c33_28]; decide) (by rw [c33_28]; decide) (by rw [c33_28]; decide) (by decide) ?_
    have h := md_ip c33_28 h
    refine lv_aload_n cx.1 cx.2.1 dX12_step_397 rfl (lv_at hl 4 rfl) ?_
    refine lv_iload_n cx.1 cx.2.1 dX12_step_398 rfl (lv_at hl 3 rfl) ?_
    obtain ⟨p36, e_p36, h⟩ := md_ob h
    refine hp_callVv (As := [.int p2.1]) (rest := []) cx hw (km_X12_stepBack l D cA E _ ad hj hE n p5.2 (p2.1) p36 e_p36) (cwV 1 cx.2.2.2.2.2.1 (md_giV mm_698 mm_699 mm_700 mm_5 mm_701) rfl rfl rfl hd_X12_stepBack ⟨Nat.le_of_ble_eq_true rfl, Nat.le_of_ble_eq_true rfl⟩) md_at0 rfl rfl hl.1 rfl (Nat.le_of_ble_eq_true rfl) dX12_step_399 ⟨Nat.le_refl _, Nat.le_refl _⟩ (fun u H locs hp hw => ?_)
    obtain rfl := hp
    refine lv_goto (tgt := 414) cx.1 cx.2.1 dX12_step_402 (by decide) ?_
    exact hp_vret cx hw (md_retv h) dX12_step_414
  have h := md_in c33_28 h
  have nc33_0 := md_nei c33_0
  have nc33_1 := md_nei c33_1
  have nc33_2 := md_nei c33_2
  have nc33_3 := md_nei c33_3
  have nc33_16 := md_nei c33_16
  have nc33_17 := md_nei c33_17
  have nc33_18 := md_nei c33_18
  have nc33_19 := md_nei c33_19
  have nc33_20 := md_nei c33_20
  have nc33_28 := md_nei c33_28
  by_cases c33_4 : (v4 &&& 255) = 4
  · refine lv_tableIn (off := 372) (tgt := 405) cx.1 cx.2.1 dX12_step_33 (by rw [c33_4]; decide) (by rw [c33_4]; decide) (by rw [c33_4]; decide) (by decide) ?_
    exact J405 p5.2 (p2.1) v3 ((v4 &&& 255)) (p5.1) _ _ _ h hw (lv_sub hl [4, 3, 2, 1, 0] rfl)
  have nc33_4 := md_nei c33_4
  by_cases c33_5 : (v4 &&& 255) = 5
  · refine lv_tableIn (off := 372) (tgt := 405) cx.1 cx.2.1 dX12_step_33 (by rw [c33_5]; decide) (by rw [c33_5]; decide) (by rw [c33_5]; decide) (by decide) ?_
    exact J405 p5.2 (p2.1) v3 ((v4 &&& 255)) (p5.1) _ _ _ h hw (lv_sub hl [4, 3, 2, 1, 0] rfl)
  have nc33_5 := md_nei c33_5
  by_cases c33_6 : (v4 &&& 255) = 6
  · refine lv_tableIn (off := 372) (tgt := 405) cx.1 cx.2.1 dX12_step_33 (by rw [c33_6]; decide) (by rw [c33_6]; decide) (by rw [c33_6]; decide) (by decide) ?_
    exact J405 p5.2 (p2.1) v3 ((v4 &&& 255)) (p5.1) _ _ _ h hw (lv_sub hl [4, 3, 2, 1, 0] rfl)
  have nc33_6 := md_nei c33_6
  by_cases c33_7 : (v4 &&& 255) = 7
  · refine lv_tableIn (off := 372) (tgt := 405) cx.1 cx.2.1 dX12_step_33 (by rw [c33_7]; decide) (by rw [c33_7]; decide) (by rw [c33_7]; decide) (by decide) ?_
    exact J405 p5.2 (p2.1) v3 ((v4 &&& 255)) (p5.1) _ _ _ h hw (lv_sub hl [4, 3, 2, 1, 0] rfl)
  have nc33_7 := md_nei c33_7
  by_cases c33_8 : (v4 &&& 255) = 8
  · refine lv_tableIn (off := 372) (tgt := 405) cx.1 cx.2.1 dX12_step_33 (by rw [c33_8]; decide) (by rw [c33_8]; decide) (by rw [c33_8]; decide) (by decide) ?_
    exact J405 p5.2 (p2.1) v3 ((v4 &&& 255)) (p5.1) _ _ _ h hw (lv_sub hl [4, 3, 2, 1, 0] rfl)
  have nc33_8 := md_nei c33_8
  by_cases c33_9 : (v4 &&& 255) = 9
  · refine lv_tableIn (off := 372) (tgt := 405) cx.1 cx.2.1 dX12_step_33 (by rw [c33_9]; decide) (by rw [c33_9]; decide) (by rw [c33_9]; decide) (by decide) ?_
    exact J405 p5.2 (p2.1) v3 ((v4 &&& 255)) (p5.1) _ _ _ h hw (lv_sub hl [4, 3, 2, 1, 0] rfl)
  have nc33_9 := md_nei c33_9
  by_cases c33_10 : (v4 &&& 255) = 10
  · refine lv_tableIn (off := 372) (tgt := 405) cx.1 cx.2.1 dX12_step_33 (by rw [c33_10]; decide) (by rw [c33_10]; decide) (by rw [c33_10]; decide) (by decide) ?_
    exact J405 p5.2 (p2.1) v3 ((v4 &&& 255)) (p5.1) _ _ _ h hw (lv_sub hl [4, 3, 2, 1, 0] rfl)
  have nc33_10 := md_nei c33_10
  by_cases c33_11 : (v4 &&& 255) = 11
  · refine lv_tableIn (off := 372) (tgt := 405) cx.1 cx.2.1 dX12_step_33 (by rw [c33_11]; decide) (by rw [c33_11]; decide) (by rw [c33_11]; decide) (by decide) ?_
    exact J405 p5.2 (p2.1) v3 ((v4 &&& 255)) (p5.1) _ _ _ h hw (lv_sub hl [4, 3, 2, 1, 0] rfl)
  have nc33_11 := md_nei c33_11
  by_cases c33_12 : (v4 &&& 255) = 12
  · refine lv_tableIn (off := 372) (tgt := 405) cx.1 cx.2.1 dX12_step_33 (by rw [c33_12]; decide) (by rw [c33_12]; decide) (by rw [c33_12]; decide) (by decide) ?_
    exact J405 p5.2 (p2.1) v3 ((v4 &&& 255)) (p5.1) _ _ _ h hw (lv_sub hl [4, 3, 2, 1, 0] rfl)
  have nc33_12 := md_nei c33_12
  by_cases c33_13 : (v4 &&& 255) = 13
  · refine lv_tableIn (off := 372) (tgt := 405) cx.1 cx.2.1 dX12_step_33 (by rw [c33_13]; decide) (by rw [c33_13]; decide) (by rw [c33_13]; decide) (by decide) ?_
    exact J405 p5.2 (p2.1) v3 ((v4 &&& 255)) (p5.1) _ _ _ h hw (lv_sub hl [4, 3, 2, 1, 0] rfl)
  have nc33_13 := md_nei c33_13
  by_cases c33_14 : (v4 &&& 255) = 14
  · refine lv_tableIn (off := 372) (tgt := 405) cx.1 cx.2.1 dX12_step_33 (by rw [c33_14]; decide) (by rw [c33_14]; decide) (by rw [c33_14]; decide) (by decide) ?_
    exact J405 p5.2 (p2.1) v3 ((v4 &&& 255)) (p5.1) _ _ _ h hw (lv_sub hl [4, 3, 2, 1, 0] rfl)
  have nc33_14 := md_nei c33_14
  by_cases c33_15 : (v4 &&& 255) = 15
  · refine lv_tableIn (off := 372) (tgt := 405) cx.1 cx.2.1 dX12_step_33 (by rw [c33_15]; decide) (by rw [c33_15]; decide) (by rw [c33_15]; decide) (by decide) ?_
    exact J405 p5.2 (p2.1) v3 ((v4 &&& 255)) (p5.1) _ _ _ h hw (lv_sub hl [4, 3, 2, 1, 0] rfl)
  have nc33_15 := md_nei c33_15
  by_cases c33_21 : (v4 &&& 255) = 21
  · refine lv_tableIn (off := 372) (tgt := 405) cx.1 cx.2.1 dX12_step_33 (by rw [c33_21]; decide) (by rw [c33_21]; decide) (by rw [c33_21]; decide) (by decide) ?_
    exact J405 p5.2 (p2.1) v3 ((v4 &&& 255)) (p5.1) _ _ _ h hw (lv_sub hl [4, 3, 2, 1, 0] rfl)
  have nc33_21 := md_nei c33_21
  by_cases c33_22 : (v4 &&& 255) = 22
  · refine lv_tableIn (off := 372) (tgt := 405) cx.1 cx.2.1 dX12_step_33 (by rw [c33_22]; decide) (by rw [c33_22]; decide) (by rw [c33_22]; decide) (by decide) ?_
    exact J405 p5.2 (p2.1) v3 ((v4 &&& 255)) (p5.1) _ _ _ h hw (lv_sub hl [4, 3, 2, 1, 0] rfl)
  have nc33_22 := md_nei c33_22
  by_cases c33_23 : (v4 &&& 255) = 23
  · refine lv_tableIn (off := 372) (tgt := 405) cx.1 cx.2.1 dX12_step_33 (by rw [c33_23]; decide) (by rw [c33_23]; decide) (by rw [c33_23]; decide) (by decide) ?_
    exact J405 p5.2 (p2.1) v3 ((v4 &&& 255)) (p5.1) _ _ _ h hw (lv_sub hl [4, 3, 2, 1, 0] rfl)
  have nc33_23 := md_nei c33_23
  by_cases c33_24 : (v4 &&& 255) = 24
  · refine lv_tableIn (off := 372) (tgt := 405) cx.1 cx.2.1 dX12_step_33 (by rw [c33_24]; decide) (by rw [c33_24]; decide) (by rw [c33_24]; decide) (by decide) ?_
    exact J405 p5.2 (p2.1) v3 ((v4 &&& 255)) (p5.1) _ _ _ h hw (lv_sub hl [4, 3, 2, 1, 0] rfl)
  have nc33_24 := md_nei c33_24
  by_cases c33_25 : (v4 &&& 255) = 25
  · refine lv_tableIn (off := 372) (tgt := 405) cx.1 cx.2.1 dX12_step_33 (by rw [c33_25]; decide) (by rw [c33_25]; decide) (by rw [c33_25]; decide) (by decide) ?_
    exact J405 p5.2 (p2.1) v3 ((v4 &&& 255)) (p5.1) _ _ _ h hw (lv_sub hl [4, 3, 2, 1, 0] rfl)
  have nc33_25 := md_nei c33_25
  by_cases c33_26 : (v4 &&& 255) = 26
  · refine lv_tableIn (off := 372) (tgt := 405) cx.1 cx.2.1 dX12_step_33 (by rw [c33_26]; decide) (by rw [c33_26]; decide) (by rw [c33_26]; decide) (by decide) ?_
    exact J405 p5.2 (p2.1) v3 ((v4 &&& 255)) (p5.1) _ _ _ h hw (lv_sub hl [4, 3, 2, 1, 0] rfl)
  have nc33_26 := md_nei c33_26
  by_cases c33_27 : (v4 &&& 255) = 27
  · refine lv_tableIn (off := 372) (tgt := 405) cx.1 cx.2.1 dX12_step_33 (by rw [c33_27]; decide) (by rw [c33_27]; decide) (by rw [c33_27]; decide) (by decide) ?_
    exact J405 p5.2 (p2.1) v3 ((v4 &&& 255)) (p5.1) _ _ _ h hw (lv_sub hl [4, 3, 2, 1, 0] rfl)
  have nc33_27 := md_nei c33_27
  refine lv_tableOut (tgt := 405) cx.1 cx.2.1 dX12_step_33 (by have := nc33_0; rw [show ((0 : Int32)).toInt = 0 from by decide] at this; have := nc33_1; rw [show ((1 : Int32)).toInt = 1 from by decide] at this; have := nc33_2; rw [show ((2 : Int32)).toInt = 2 from by decide] at this; have := nc33_3; rw [show ((3 : Int32)).toInt = 3 from by decide] at this; have := nc33_16; rw [show ((16 : Int32)).toInt = 16 from by decide] at this; have := nc33_17; rw [show ((17 : Int32)).toInt = 17 from by decide] at this; have := nc33_18; rw [show ((18 : Int32)).toInt = 18 from by decide] at this; have := nc33_19; rw [show ((19 : Int32)).toInt = 19 from by decide] at this; have := nc33_20; rw [show ((20 : Int32)).toInt = 20 from by decide] at this; have := nc33_28; rw [show ((28 : Int32)).toInt = 28 from by decide] at this; have := nc33_4; rw [show ((4 : Int32)).toInt = 4 from by decide] at this; have := nc33_5; rw [show ((5 : Int32)).toInt = 5 from by decide] at this; have := nc33_6; rw [show ((6 : Int32)).toInt = 6 from by decide] at this; have := nc33_7; rw [show ((7 : Int32)).toInt = 7 from by decide] at this; have := nc33_8; rw [show ((8 : Int32)).toInt = 8 from by decide] at this; have := nc33_9; rw [show ((9 : Int32)).toInt = 9 from by decide] at this; have := nc33_10; rw [show ((10 : Int32)).toInt = 10 from by decide] at this; have := nc33_11; rw [show ((11 : Int32)).toInt = 11 from by decide] at this; have := nc33_12; rw [show ((12 : Int32)).toInt = 12 from by decide] at this; have := nc33_13; rw [show ((13 : Int32)).toInt = 13 from by decide] at this; have := nc33_14; rw [show ((14 : Int32)).toInt = 14 from by decide] at this; have := nc33_15; rw [show ((15 : Int32)).toInt = 15 from by decide] at this; have := nc33_21; rw [show ((21 : Int32)).toInt = 21 from by decide] at this; have := nc33_22; rw [show ((22 : Int32)).toInt = 22 from by decide] at this; have := nc33_23; rw [show ((23 : Int32)).toInt = 23 from by decide] at this; have := nc33_24; rw [show ((24 : Int32)).toInt = 24 from by decide] at this; have := nc33_25; rw [show ((25 : Int32)).toInt = 25 from by decide] at this; have := nc33_26; rw [show ((26 : Int32)).toInt = 26 from by decide] at this; have := nc33_27; rw [show ((27 : Int32)).toInt = 27 from by decide] at this;  omega) (by decide) ?_
  exact J405 p5.2 (p2.1) v3 ((v4 &&& 255)) (p5.1) _ _ _ h hw (lv_sub hl [4, 3, 2, 1, 0] rfl)
set_option maxHeartbeats 4000000 in
set_option maxRecDepth 100000 in
theorem km_X12_run (l : Launch) (D : va_G) (cA : Nat → ClassId) (E : hp_N) (sz : Nat) (ad : Nat → Nat) (hj : md_inj ad) (hE : md_E E) (n : Nat) (σ0 : md_S) (a1 : Int32) (a2 : Int32) (a3 : Int32) (a4 : Int32) (p : (Int32 × md_S)) (h : f_X12_run n σ0 a1 a2 a3 a4 = some p) : Met l yX12_run (Cond.code yX12_run cX12_run 11 (some .int) :: v_MOD) ({ frames := 7, cells := 0, slots := 0, locals := 178 }) (hp_Pc D vwCl (hp_Tl cA) E sz (md_pic cA ad σ0) [.ref (ad 137), .int a1, .int a2, .int a3, .int a4]) (hp_Qi D vwCl (hp_Tl cA) sz (md_pic cA ad σ0) (fun r u => r = p.1 ∧ u = md_pic cA ad p.2)) 0 0 (hp_A (md_pic cA ad σ0) sz) := by
  refine hp_ofW (cc := cX12_run) (maxL := 11) (ret := (some .int)) (by decide) rfl (Nat.le_of_ble_eq_true rfl) ?_
  intro pp ee ss mm bb mt cd ls cx hsz hw hl
  have hl : lv_has ls 11 [(0, .ref (ad 137)), (1, .int a1), (2, .int a2), (3, .int a3), (4, .int a4)] := hl
  have J323 : ∀ (σ : md_S) (t0 : Int32) (H : Heap) (locs : List Loc) (ls : Array Slot), f_X12_run_J323 n σ t0 = some p → hp_w D vwCl (hp_Tl cA) E (hp_A (md_pic cA ad σ0) sz) ss H locs (md_pic cA ad σ) → lv_has ls 11 [(0, .ref (ad 137))] → W pp l ee ({ frames := 7, cells := 0, slots := 0, locals := 178 }) ss mm [.ref (ad 137), .int a1, .int a2, .int a3, .int a4].toArray bb mt cd H locs 0 0 (MQ bb (hp_Qi D vwCl (hp_Tl cA) sz (md_pic cA ad σ0) (fun r u => r = p.1 ∧ u = md_pic cA ad p.2)) [.ref (ad 137), .int a1, .int a2, .int a3, .int a4].toArray ss 0 0 (hp_A (md_pic cA ad σ0) sz)) (F0 mm 323 ls [.int t0, .ref (ad 137)]) := by
    intro σ t0 H locs ls h hw hl
    obtain ⟨σ1, e_σ1, h⟩ := md_ob h
    refine md_pI (k := 88) cx hw hin12c rfl (by decide) rfl (List.mem_cons_of_mem _ mm_724) rfl e_σ1 dX12_run_323 (fun H locs hw => ?_)
    refine lv_aload_n cx.1 cx.2.1 dX12_run_326 rfl (lv_at hl 0 rfl) ?_
    refine md_gI (k := 88) cx hw hin12c rfl (by decide) (List.mem_cons_of_mem _ mm_724) dX12_run_327 ?_
    exact hp_iret cx hw (md_ret h) dX12_run_330
  have J74 : ∀ (σ : md_S) (l1 : Int32) (l2 : Int32) (l3 : Int32) (l4 : Int32) (t0 : Int32) (H : Heap) (locs : List Loc) (ls : Array Slot), f_X12_run_J74 n σ l1 l2 l3 l4 t0 = some p → hp_w D vwCl (hp_Tl cA) E (hp_A (md_pic cA ad σ0) sz) ss H locs (md_pic cA ad σ) → lv_has ls 11 [(0, .ref (ad 137)), (1, .int l1), (2, .int l2), (3, .int l3), (4, .int l4)] → W pp l ee ({ frames := 7, cells := 0, slots := 0, locals := 178 }) ss mm [.ref (ad 137), .int a1, .int a2, .int a3, .int a4].toArray bb mt cd H locs 0 0 (MQ bb (hp_Qi D vwCl (hp_Tl cA) sz (md_pic cA ad σ0) (fun r u => r = p.1 ∧ u = md_pic cA ad p.2)) [.ref (ad 137), .int a1, .int a2, .int a3, .int a4].toArray ss 0 0 (hp_A (md_pic cA ad σ0) sz)) (F0 mm 74 ls [.int t0, .ref (ad 137)]) := by
    intro σ l1 l2 l3 l4 t0 H locs ls h hw hl
    obtain ⟨σ2, e_σ2, h⟩ := md_ob h
    refine md_pI (k := 0) cx hw hin12c rfl (by decide) rfl (List.mem_cons_of_mem _ mm_0) rfl e_σ2 dX12_run_74 (fun H locs hw => ?_)
    refine lv_aload_n cx.1 cx.2.1 dX12_run_77 rfl (lv_at hl 0 rfl) ?_
    refine md_gI (k := 0) cx hw hin12c rfl (by decide) (List.mem_cons_of_mem _ mm_0) dX12_run_78 ?_
    refine lv_if_eq (tgt := 86) cx.1 cx.2.1 dX12_run_81 (by decide) (fun c81 => ?_) (fun c81 => ?_)
    · have h := md_ip c81 h
      refine lv_aload_n cx.1 cx.2.1 dX12_run_86 rfl (lv_at hl 0 rfl) ?_
      refine lv_iconst (v := 1) cx.1 cx.2.1 dX12_run_87 (by decide) ?_
      obtain ⟨σ3, e_σ3, h⟩ := md_ob h
      refine md_pZ (k := 86) cx hw hin12c rfl (by decide) rfl (List.mem_cons_of_mem _ mm_468) rfl (by decide) e_σ3 dX12_run_88 (fun H locs hw => ?_)
      refine lv_aload_n cx.1 cx.2.1 dX12_run_91 rfl (lv_at hl 0 rfl) ?_
      refine lv_iload cx.1 cx.2.1 dX12_run_92 (lv_at hl 4 rfl) ?_
      obtain ⟨z4, e_z4, h⟩ := md_ob h
      obtain ⟨σ5, e_σ5, h⟩ := md_ob h
      refine md_pZ (k := 87) cx hw hin12c rfl (by decide) rfl (List.mem_cons_of_mem _ mm_582) rfl (md_zbs e_z4).2 e_σ5 dX12_run_94 (fun H locs hw => ?_)
      refine lv_aload_n cx.1 cx.2.1 dX12_run_97 rfl (lv_at hl 0 rfl) ?_
      refine lv_iconst (v := 0) cx.1 cx.2.1 dX12_run_98 (by decide) ?_
      obtain ⟨σ6, e_σ6, h⟩ := md_ob h
      refine md_pI (k := 89) cx hw hin12c rfl (by decide) rfl (List.mem_cons_of_mem _ mm_572) rfl e_σ6 dX12_run_99 (fun H locs hw => ?_)
      refine lv_aload_n cx.1 cx.2.1 dX12_run_102 rfl (lv_at hl 0 rfl) ?_
      refine lv_iload_n cx.1 cx.2.1 dX12_run_103 rfl (lv_at hl 3 rfl) ?_
      obtain ⟨σ7, e_σ7, h⟩ := md_ob h
      refine md_pI (k := 90) cx hw hin12c rfl (by decide) rfl (List.mem_cons_of_mem _ mm_573) rfl e_σ7 dX12_run_104 (fun H locs hw => ?_)
      refine lv_aload_n cx.1 cx.2.1 dX12_run_107 rfl (lv_at hl 0 rfl) ?_
      refine lv_iconst (v := 0) cx.1 cx.2.1 dX12_run_108 (by decide) ?_
      obtain ⟨σ8, e_σ8, h⟩ := md_ob h
      refine md_pI (k := 91) cx hw hin12c rfl (by decide) rfl (List.mem_cons_of_mem _ mm_544) rfl e_σ8 dX12_run_109 (fun H locs hw => ?_)
      refine lv_aload_n cx.1 cx.2.1 dX12_run_112 rfl (lv_at hl 0 rfl) ?_
      refine lv_iconst (v := 0) cx.1 cx.2.1 dX12_run_113 (by decide) ?_
      obtain ⟨σ9, e_σ9, h⟩ := md_ob h
      refine md_pI (k := 93) cx hw hin12c rfl (by decide) rfl (List.mem_cons_of_mem _ mm_588) rfl e_σ9 dX12_run_114 (fun H locs hw => ?_)
      refine lv_aload_n cx.1 cx.2.1 dX12_run_117 rfl (lv_at hl 0 rfl) ?_
      refine lv_iconst (v := 0) cx.1 cx.2.1 dX12_run_118 (by decide) ?_
      obtain ⟨σ10, e_σ10, h⟩ := md_ob h
      refine md_pI (k := 94) cx hw hin12c rfl (by decide) rfl (List.mem_cons_of_mem _ mm_534) rfl e_σ10 dX12_run_119 (fun H locs hw => ?_)
      refine lv_aload_n cx.1 cx.2.1 dX12_run_122 rfl (lv_at hl 0 rfl) ?_
      refine lv_iconst (v := 0) cx.1 cx.2.1 dX12_run_123 (by decide) ?_
      obtain ⟨σ11, e_σ11, h⟩ := md_ob h
      refine md_pI (k := 95) cx hw hin12c rfl (by decide) rfl (List.mem_cons_of_mem _ mm_594) rfl e_σ11 dX12_run_124 (fun H locs hw => ?_)
      refine lv_aload_n cx.1 cx.2.1 dX12_run_127 rfl (lv_at hl 0 rfl) ?_
      refine lv_iconst (v := 0) cx.1 cx.2.1 dX12_run_128 (by decide) ?_
      obtain ⟨σ12, e_σ12, h⟩ := md_ob h
      refine md_pI (k := 98) cx hw hin12c rfl (by decide) rfl (List.mem_cons_of_mem _ mm_596) rfl e_σ12 dX12_run_129 (fun H locs hw => ?_)
      refine lv_aload_n cx.1 cx.2.1 dX12_run_132 rfl (lv_at hl 0 rfl) ?_
      refine lv_iconst (v := 0) cx.1 cx.2.1 dX12_run_133 (by decide) ?_
      obtain ⟨σ13, e_σ13, h⟩ := md_ob h
      refine md_pI (k := 101) cx hw hin12c rfl (by decide) rfl (List.mem_cons_of_mem _ mm_574) rfl e_σ13 dX12_run_134 (fun H locs hw => ?_)
      refine lv_aload_n cx.1 cx.2.1 dX12_run_137 rfl (lv_at hl 0 rfl) ?_
      refine lv_iconst (v := 0) cx.1 cx.2.1 dX12_run_138 (by decide) ?_
      obtain ⟨σ14, e_σ14, h⟩ := md_ob h
      refine md_pI (k := 105) cx hw hin12c rfl (by decide) rfl (List.mem_cons_of_mem _ mm_612) rfl e_σ14 dX12_run_139 (fun H locs hw => ?_)
      refine lv_aload_n cx.1 cx.2.1 dX12_run_142 rfl (lv_at hl 0 rfl) ?_
      refine lv_iconst (v := 0) cx.1 cx.2.1 dX12_run_143 (by decide) ?_
      obtain ⟨σ15, e_σ15, h⟩ := md_ob h
      refine md_pZ (k := 129) cx hw hin12c rfl (by decide) rfl (List.mem_cons_of_mem _ mm_579) rfl (by decide) e_σ15 dX12_run_144 (fun H locs hw => ?_)
      refine lv_aload_n cx.1 cx.2.1 dX12_run_147 rfl (lv_at hl 0 rfl) ?_
      refine lv_iconst (v := 1) cx.1 cx.2.1 dX12_run_148 (by decide) ?_
      obtain ⟨σ16, e_σ16, h⟩ := md_ob h
      refine md_pI (k := 130) cx hw hin12c rfl (by decide) rfl (List.mem_cons_of_mem _ mm_523) rfl e_σ16 dX12_run_149 (fun H locs hw => ?_)
      refine lv_aload_n cx.1 cx.2.1 dX12_run_152 rfl (lv_at hl 0 rfl) ?_
      refine md_gR (k := 131) cx hw hin12c (by decide) (by decide) (List.mem_cons_of_mem _ mm_524) dX12_run_153 ?_
      refine lv_iconst (v := 0) cx.1 cx.2.1 dX12_run_156 (by decide) ?_
      refine lv_iconst (v := 1) cx.1 cx.2.1 dX12_run_157 (by decide) ?_
      obtain ⟨σ17, e_σ17, h⟩ := md_ob h
      refine md_sI (k := 131) hj cx hw (by decide) rfl rfl rfl e_σ17 dX12_run_158 (fun H locs hw => ?_)
      refine lv_aload_n cx.1 cx.2.1 dX12_run_159 rfl (lv_at hl 0 rfl) ?_
      refine md_gR (k := 132) cx hw hin12c (by decide) (by decide) (List.mem_cons_of_mem _ mm_525) dX12_run_160 ?_
      refine lv_iconst (v := 0) cx.1 cx.2.1 dX12_run_163 (by decide) ?_
      refine lv_iconst (v := 0) cx.1 cx.2.1 dX12_run_164 (by decide) ?_
      obtain ⟨σ18, e_σ18, h⟩ := md_ob h
      refine md_sI (k := 132) hj cx hw (by decide) rfl rfl rfl e_σ18 dX12_run_165 (fun H locs hw => ?_)
      refine lv_aload_n cx.1 cx.2.1 dX12_run_166 rfl (lv_at hl 0 rfl) ?_
      refine lv_aload_n cx.1 cx.2.1 dX12_run_167 rfl (lv_at hl 0 rfl) ?_
      obtain ⟨p19, e_p19, h⟩ := md_ob h
      refine hp_callVi (As := []) (rest := [.ref (ad 137)]) cx hw (km_X12_newThread l D cA E _ ad hj hE n σ18  p19 e_p19) (cwV 0 cx.2.2.2.2.2.1 (md_giV mm_642 mm_643 mm_644 mm_5 mm_645) rfl rfl rfl hd_X12_newThread ⟨Nat.le_of_ble_eq_true rfl, Nat.le_of_ble_eq_true rfl⟩) md_at0 rfl rfl hl.1 rfl (Nat.le_of_ble_eq_true rfl) dX12_run_168 ⟨Nat.le_refl _, Nat.le_refl _⟩ (fun r u H locs hp hw => ?_)
      obtain ⟨rfl, rfl⟩ := hp
      obtain ⟨σ20, e_σ20, h⟩ := md_ob h
      refine md_pI (k := 127) cx hw hin12c rfl (by decide) rfl (List.mem_cons_of_mem _ mm_538) rfl e_σ20 dX12_run_171 (fun H locs hw => ?_)
      refine lv_aload_n cx.1 cx.2.1 dX12_run_174 rfl (lv_at hl 0 rfl) ?_
      refine lv_iconst (v := 0) cx.1 cx.2.1 dX12_run_175 (by decide) ?_
      refine lv_iload_n cx.1 cx.2.1 dX12_run_176 rfl (lv_at hl 1 rfl) ?_
      refine lv_iconst (v := 0) cx.1 cx.2.1 dX12_run_177 (by decide) ?_
      obtain ⟨p21, e_p21, h⟩ := md_ob h
      refine hp_callVi (As := [.int 0, .int l1, .int 0]) (rest := []) cx hw (km_X12_begin l D cA E _ ad hj hE n σ20 (0 : Int32) l1 (0 : Int32) p21 e_p21) (cwV 3 cx.2.2.2.2.2.1 (md_giV mm_617 mm_618 mm_619 mm_5 mm_620) rfl rfl rfl hd_X12_begin ⟨Nat.le_of_ble_eq_true rfl, Nat.le_of_ble_eq_true rfl⟩) md_at0 rfl rfl hl.1 rfl (Nat.le_of_ble_eq_true rfl) dX12_run_178 ⟨Nat.le_refl _, Nat.le_refl _⟩ (fun r u H locs hp hw => ?_)
      obtain ⟨rfl, rfl⟩ := hp
      refine lv_istore (lv' := [(6, .int p21.1), (0, .ref (ad 137)), (1, .int l1), (2, .int l2), (3, .int l3), (4, .int l4)]) cx.1 cx.2.1 dX12_run_181 hl (by decide) rfl (fun ls hl => ?_)
      refine lv_aload_n cx.1 cx.2.1 dX12_run_183 rfl (lv_at hl 1 rfl) ?_
      refine lv_iconst (v := 0) cx.1 cx.2.1 dX12_run_184 (by decide) ?_
      refine lv_iconst (v := 0) cx.1 cx.2.1 dX12_run_185 (by decide) ?_
      refine lv_iconst (v := 0) cx.1 cx.2.1 dX12_run_186 (by decide) ?_
      refine lv_iconst (v := 2) cx.1 cx.2.1 dX12_run_187 (by decide) ?_
      refine lv_aload_n cx.1 cx.2.1 dX12_run_188 rfl (lv_at hl 1 rfl) ?_
      refine lv_aload_n cx.1 cx.2.1 dX12_run_189 rfl (lv_at hl 1 rfl) ?_
      refine md_gR (k := 37) cx hw hin12c (by decide) (by decide) (List.mem_cons_of_mem _ mm_243) dX12_run_190 ?_
      refine lv_iload_n cx.1 cx.2.1 dX12_run_193 rfl (lv_at hl 2 rfl) ?_
      obtain ⟨v22, e_v22, h⟩ := md_ob h
      refine md_lI (k := 37) hj cx hw (by decide) rfl rfl rfl e_v22 dX12_run_194 ?_
      obtain ⟨p23, e_p23, h⟩ := md_ob h
      refine hp_callVi (As := [.int v22]) (rest := [.int 2, .int 0, .int 0, .int 0, .ref (ad 137)]) cx hw (km_X12_newObject l D cA E _ ad hj hE n p21.2 v22 p23 e_p23) (cwV 1 cx.2.2.2.2.2.1 (md_giV mm_650 mm_651 mm_652 mm_5 mm_653) rfl rfl rfl hd_X12_newObject ⟨Nat.le_of_ble_eq_true rfl, Nat.le_of_ble_eq_true rfl⟩) md_at0 rfl rfl hl.1 rfl (Nat.le_of_ble_eq_true rfl) dX12_run_195 ⟨Nat.le_refl _, Nat.le_refl _⟩ (fun r u H locs hp hw => ?_)
      obtain ⟨rfl, rfl⟩ := hp
      obtain ⟨p24, e_p24, h⟩ := md_ob h
      refine hp_callVv (As := [.int 0, .int 0, .int 0, .int 2, .int p23.1]) (rest := []) cx hw (km_X12_setLocal l D cA E _ ad hj hE n p23.2 (0 : Int32) (0 : Int32) (0 : Int32) (2 : Int32) (p23.1) p24 e_p24) (cwV 5 cx.2.2.2.2.2.1 (md_giV mm_589 mm_590 mm_591 mm_5 mm_592) rfl rfl rfl hd_X12_setLocal ⟨Nat.le_of_ble_eq_true rfl, Nat.le_of_ble_eq_true rfl⟩) md_at0 rfl rfl hl.1 rfl (Nat.le_of_ble_eq_true rfl) dX12_run_198 ⟨Nat.le_refl _, Nat.le_refl _⟩ (fun u H locs hp hw => ?_)
      obtain rfl := hp
      refine lv_iload_n cx.1 cx.2.1 dX12_run_201 rfl (lv_at hl 3 rfl) ?_
      refine lv_istore (lv' := [(7, .int l2), (6, .int p21.1), (0, .ref (ad 137)), (1, .int l1), (2, .int l2), (3, .int l3), (4, .int l4)]) cx.1 cx.2.1 dX12_run_202 hl (by decide) rfl (fun ls hl => ?_)
      refine lv_aload_n cx.1 cx.2.1 dX12_run_204 rfl (lv_at hl 2 rfl) ?_
      refine lv_iconst (v := 1) cx.1 cx.2.1 dX12_run_205 (by decide) ?_
      obtain ⟨σ25, e_σ25, h⟩ := md_ob h
      refine md_pZ (k := 128) cx hw hin12c rfl (by decide) rfl (List.mem_cons_of_mem _ mm_569) rfl (by decide) e_σ25 dX12_run_206 (fun H locs hw => ?_)
      refine lv_iconst (v := 1) cx.1 cx.2.1 dX12_run_209 (by decide) ?_
      refine lv_istore (lv' := [(8, .int 1), (7, .int l2), (6, .int p21.1), (0, .ref (ad 137)), (1, .int l1), (2, .int l2), (3, .int l3), (4, .int l4)]) cx.1 cx.2.1 dX12_run_210 hl (by decide) rfl (fun ls hl => ?_)
      have L212 : ∀ (j : Nat) (σ : md_S) (l2 : Int32) (l7 : Int32) (l8 : Int32) (q : (md_S × Int32 × Int32)) (H : Heap) (locs : List Loc) (ls : Array Slot), f_X12_run_L212 n l2 j σ l7 l8 = some q → hp_w D vwCl (hp_Tl cA) E (hp_A (md_pic cA ad σ0) sz) ss H locs (md_pic cA ad σ) → lv_has ls 11 [(0, .ref (ad 137)), (2, .int l2), (7, .int l7), (8, .int l8)] → (∀ (H : Heap) (locs : List Loc) (ls : Array Slot), hp_w D vwCl (hp_Tl cA) E (hp_A (md_pic cA ad σ0) sz) ss H locs (md_pic cA ad q.1) → lv_has ls 11 [(0, .ref (ad 137))] → W pp l ee ({ frames := 7, cells := 0, slots := 0, locals := 178 }) ss mm [.ref (ad 137), .int a1, .int a2, .int a3, .int a4].toArray bb mt cd H locs 0 0 (MQ bb (hp_Qi D vwCl (hp_Tl cA) sz (md_pic cA ad σ0) (fun r u => r = p.1 ∧ u = md_pic cA ad p.2)) [.ref (ad 137), .int a1, .int a2, .int a3, .int a4].toArray ss 0 0 (hp_A (md_pic cA ad σ0) sz)) (F0 mm 299 ls [])) → W pp l ee ({ frames := 7, cells := 0, slots := 0, locals := 178 }) ss mm [.ref (ad 137), .int a1, .int a2, .int a3, .int a4].toArray bb mt cd H locs 0 0 (MQ bb (hp_Qi D vwCl (hp_Tl cA) sz (md_pic cA ad σ0) (fun r u => r = p.1 ∧ u = md_pic cA ad p.2)) [.ref (ad 137), .int a1, .int a2, .int a3, .int a4].toArray ss 0 0 (hp_A (md_pic cA ad σ0) sz)) (F0 mm 212 ls []) := by
        intro j
        induction j with
        | zero => intro σ l2 l7 l8 q H locs ls h; exact nomatch h
        | succ j ih =>
          intro σ l2 l7 l8 q H locs ls h hw hl K
          have J296 : ∀ (σ : md_S) (l7 : Int32) (l8 : Int32) (H : Heap) (locs : List Loc) (ls : Array Slot), f_X12_run_J296 n l2 (f_X12_run_L212 n l2 j) σ l7 l8 = some q → hp_w D vwCl (hp_Tl cA) E (hp_A (md_pic cA ad σ0) sz) ss H locs (md_pic cA ad σ) → lv_has ls 11 [(0, .ref (ad 137)), (2, .int l2), (7, .int l7), (8, .int l8)] → W pp l ee ({ frames := 7, cells := 0, slots := 0, locals := 178 }) ss mm [.ref (ad 137), .int a1, .int a2, .int a3, .int a4].toArray bb mt cd H locs 0 0 (MQ bb (hp_Qi D vwCl (hp_Tl cA) sz (md_pic cA ad σ0) (fun r u => r = p.1 ∧ u = md_pic cA ad p.2)) [.ref (ad 137), .int a1, .int a2, .int a3, .int a4].toArray ss 0 0 (hp_A (md_pic cA ad σ0) sz)) (F0 mm 296 ls []) := by
            intro σ l7 l8 H locs ls h hw hl
            refine lv_goto (tgt := 212) cx.1 cx.2.1 dX12_run_296 (by decide) ?_
            exact ih σ l2 l7 l8 q _ _ _ h hw (lv_sub hl [0, 1, 2, 3] rfl) K
          have J290 : ∀ (σ : md_S) (l7 : Int32) (l8 : Int32) (l10 : Int32) (H : Heap) (locs : List Loc) (ls : Array Slot), f_X12_run_J290 n l2 (f_X12_run_L212 n l2 j) σ l7 l8 l10 = some q → hp_w D vwCl (hp_Tl cA) E (hp_A (md_pic cA ad σ0) sz) ss H locs (md_pic cA ad σ) → lv_has ls 11 [(0, .ref (ad 137)), (2, .int l2), (7, .int l7), (8, .int l8), (10, .int l10)] → W pp l ee ({ frames := 7, cells := 0, slots := 0, locals := 178 }) ss mm [.ref (ad 137), .int a1, .int a2, .int a3, .int a4].toArray bb mt cd H locs 0 0 (MQ bb (hp_Qi D vwCl (hp_Tl cA) sz (md_pic cA ad σ0) (fun r u => r = p.1 ∧ u = md_pic cA ad p.2)) [.ref (ad 137), .int a1, .int a2, .int a3, .int a4].toArray ss 0 0 (hp_A (md_pic cA ad σ0) sz)) (F0 mm 290 ls []) := by
            intro σ l7 l8 l10 H locs ls h hw hl
            refine lv_aload_n cx.1 cx.2.1 dX12_run_290 rfl (lv_at hl 0 rfl) ?_
            refine lv_iload cx.1 cx.2.1 dX12_run_291 (lv_at hl 4 rfl) ?_
            obtain ⟨p26, e_p26, h⟩ := md_ob h
            refine hp_callVv (As := [.int l10]) (rest := []) cx hw (km_X12_choose l D cA E _ ad hj hE n σ l10 p26 e_p26) (cwV 1 cx.2.2.2.2.2.1 (md_giV mm_716 mm_717 mm_718 mm_5 mm_719) rfl rfl rfl hd_X12_choose ⟨Nat.le_of_ble_eq_true rfl, Nat.le_of_ble_eq_true rfl⟩) md_at0 rfl rfl hl.1 rfl (Nat.le_of_ble_eq_true rfl) dX12_run_293 ⟨Nat.le_refl _, Nat.le_refl _⟩ (fun u H locs hp hw => ?_)
            obtain rfl := hp
            exact J296 p26.2 l7 l8 _ _ _ h hw (lv_sub hl [0, 1, 2, 3] rfl)
          have J254 : ∀ (σ : md_S) (l7 : Int32) (l9 : Int32) (t0 : Int32) (H : Heap) (locs : List Loc) (ls : Array Slot), f_X12_run_J254 n l2 (f_X12_run_L212 n l2 j) σ l7 l9 t0 = some q → hp_w D vwCl (hp_Tl cA) E (hp_A (md_pic cA ad σ0) sz) ss H locs (md_pic cA ad σ) → lv_has ls 11 [(0, .ref (ad 137)), (2, .int l2), (7, .int l7), (9, .int l9)] → W pp l ee ({ frames := 7, cells := 0, slots := 0, locals := 178 }) ss mm [.ref (ad 137), .int a1, .int a2, .int a3, .int a4].toArray bb mt cd H locs 0 0 (MQ bb (hp_Qi D vwCl (hp_Tl cA) sz (md_pic cA ad σ0) (fun r u => r = p.1 ∧ u = md_pic cA ad p.2)) [.ref (ad 137), .int a1, .int a2, .int a3, .int a4].toArray ss 0 0 (hp_A (md_pic cA ad σ0) sz)) (F0 mm 254 ls [.int t0]) := by
            intro σ l7 l9 t0 H locs ls h hw hl
            refine lv_istore (lv' := [(8, .int t0), (0, .ref (ad 137)), (2, .int l2), (7, .int l7), (9, .int l9)]) cx.1 cx.2.1 dX12_run_254 hl (by decide) rfl (fun ls hl => ?_)
            refine lv_iload cx.1 cx.2.1 dX12_run_256 (lv_at hl 0 rfl) ?_
            refine lv_if_eq (tgt := 296) cx.1 cx.2.1 dX12_run_258 (by decide) (fun c258 => ?_) (fun c258 => ?_)
            · have h := md_ip c258 h
              exact J296 σ l7 t0 _ _ _ h hw (lv_sub hl [1, 2, 3, 0] rfl)
            · have h := md_in c258 h
              refine lv_iconst (v := 0) cx.1 cx.2.1 dX12_run_261 (by decide) ?_
              refine lv_istore (lv' := [(10, .int 0), (8, .int t0), (0, .ref (ad 137)), (2, .int l2), (7, .int l7), (9, .int l9)]) cx.1 cx.2.1 dX12_run_262 hl (by decide) rfl (fun ls hl => ?_)
              refine lv_iload_n cx.1 cx.2.1 dX12_run_264 rfl (lv_at hl 3 rfl) ?_
              refine lv_if_eq (tgt := 290) cx.1 cx.2.1 dX12_run_265 (by decide) (fun c265 => ?_) (fun c265 => ?_)
              · have h := md_ip c265 h
                exact J290 σ l7 t0 0 _ _ _ h hw (lv_sub hl [2, 3, 4, 1, 0] rfl)
              · have h := md_in c265 h
                refine lv_iload cx.1 cx.2.1 dX12_run_268 (lv_at hl 4 rfl) ?_
                refine lv_ldcw cx.1 cx.2.1 cx.2.2.2.2.1 (cx.2.2.2.2.2.1 _ (List.mem_cons_of_mem _ mm_715)) dX12_run_270 ?_
                refine lv_imul cx.1 cx.2.1 dX12_run_273 ?_
                refine lv_sipush (v := 12345) cx.1 cx.2.1 dX12_run_274 (by decide) ?_
                refine lv_iadd cx.1 cx.2.1 dX12_run_277 ?_
                refine lv_istore (lv' := [(7, .int ((l7 * 1103515245) + 12345)), (10, .int 0), (8, .int t0), (0, .ref (ad 137)), (2, .int l2), (9, .int l9)]) cx.1 cx.2.1 dX12_run_278 hl (by decide) rfl (fun ls hl => ?_)
                refine lv_iload cx.1 cx.2.1 dX12_run_280 (lv_at hl 0 rfl) ?_
                refine lv_bipush (v := 16) cx.1 cx.2.1 dX12_run_282 (by decide) ?_
                refine lv_iushr (v := ((((l7 * 1103515245) + 12345).toUInt32 >>> ((16 : Int32).toUInt32 &&& Int32.toUInt32 31)).toInt32)) cx.1 cx.2.1 dX12_run_284 rfl ?_
                refine lv_iload cx.1 cx.2.1 dX12_run_285 (lv_at hl 5 rfl) ?_
                obtain ⟨z27, e_z27, h⟩ := md_ob h
                refine lv_irem cx.1 cx.2.1 dX12_run_287 (md_nzs e_z27) ?_
                refine lv_istore (lv' := [(10, .int ((((((l7 * 1103515245) + 12345).toUInt32 >>> ((16 : Int32).toUInt32 &&& Int32.toUInt32 31)).toInt32)) - (((((l7 * 1103515245) + 12345).toUInt32 >>> ((16 : Int32).toUInt32 &&& Int32.toUInt32 31)).toInt32)) / l9 * l9)), (7, .int ((l7 * 1103515245) + 12345)), (8, .int t0), (0, .ref (ad 137)), (2, .int l2), (9, .int l9)]) cx.1 cx.2.1 dX12_run_288 hl (by decide) rfl (fun ls hl => ?_)
                exact J290 σ (((l7 * 1103515245) + 12345)) t0 (((((((l7 * 1103515245) + 12345).toUInt32 >>> ((16 : Int32).toUInt32 &&& Int32.toUInt32 31)).toInt32)) - (((((l7 * 1103515245) + 12345).toUInt32 >>> ((16 : Int32).toUInt32 &&& Int32.toUInt32 31)).toInt32)) / l9 * l9)) _ _ _ h hw (lv_sub hl [3, 4, 1, 2, 0] rfl)
          have J253 : ∀ (σ : md_S) (l7 : Int32) (l9 : Int32) (H : Heap) (locs : List Loc) (ls : Array Slot), f_X12_run_J253 n l2 (f_X12_run_L212 n l2 j) σ l7 l9 = some q → hp_w D vwCl (hp_Tl cA) E (hp_A (md_pic cA ad σ0) sz) ss H locs (md_pic cA ad σ) → lv_has ls 11 [(0, .ref (ad 137)), (2, .int l2), (7, .int l7), (9, .int l9)] → W pp l ee ({ frames := 7, cells := 0, slots := 0, locals := 178 }) ss mm [.ref (ad 137), .int a1, .int a2, .int a3, .int a4].toArray bb mt cd H locs 0 0 (MQ bb (hp_Qi D vwCl (hp_Tl cA) sz (md_pic cA ad σ0) (fun r u => r = p.1 ∧ u = md_pic cA ad p.2)) [.ref (ad 137), .int a1, .int a2, .int a3, .int a4].toArray ss 0 0 (hp_A (md_pic cA ad σ0) sz)) (F0 mm 253 ls []) := by
            intro σ l7 l9 H locs ls h hw hl
            refine lv_iconst (v := 0) cx.1 cx.2.1 dX12_run_253 (by decide) ?_
            exact J254 σ l7 l9 0 _ _ _ h hw (lv_sub hl [0, 1, 2, 3] rfl)
          refine lv_iload cx.1 cx.2.1 dX12_run_212 (lv_at hl 3 rfl) ?_
          refine lv_if_eq (tgt := 299) cx.1 cx.2.1 dX12_run_214 (by decide) (fun c214 => ?_) (fun c214 => ?_)
          · have h := md_ip c214 h
            obtain rfl := Option.some.inj h
            exact K _ _ _ hw (lv_sub hl [0] rfl)
          · have h := md_in c214 h
            have L217 : ∀ (j : Nat) (σ : md_S) (l2 : Int32) (l7 : Int32) (q : (md_S)) (H : Heap) (locs : List Loc) (ls : Array Slot), f_X12_run_L217 n l2 l7 j σ = some q → hp_w D vwCl (hp_Tl cA) E (hp_A (md_pic cA ad σ0) sz) ss H locs (md_pic cA ad σ) → lv_has ls 11 [(0, .ref (ad 137)), (2, .int l2), (7, .int l7)] → (∀ (H : Heap) (locs : List Loc) (ls : Array Slot), hp_w D vwCl (hp_Tl cA) E (hp_A (md_pic cA ad σ0) sz) ss H locs (md_pic cA ad q) → lv_has ls 11 [(0, .ref (ad 137)), (2, .int l2), (7, .int l7)] → W pp l ee ({ frames := 7, cells := 0, slots := 0, locals := 178 }) ss mm [.ref (ad 137), .int a1, .int a2, .int a3, .int a4].toArray bb mt cd H locs 0 0 (MQ bb (hp_Qi D vwCl (hp_Tl cA) sz (md_pic cA ad σ0) (fun r u => r = p.1 ∧ u = md_pic cA ad p.2)) [.ref (ad 137), .int a1, .int a2, .int a3, .int a4].toArray ss 0 0 (hp_A (md_pic cA ad σ0) sz)) (F0 mm 231 ls [])) → W pp l ee ({ frames := 7, cells := 0, slots := 0, locals := 178 }) ss mm [.ref (ad 137), .int a1, .int a2, .int a3, .int a4].toArray bb mt cd H locs 0 0 (MQ bb (hp_Qi D vwCl (hp_Tl cA) sz (md_pic cA ad σ0) (fun r u => r = p.1 ∧ u = md_pic cA ad p.2)) [.ref (ad 137), .int a1, .int a2, .int a3, .int a4].toArray ss 0 0 (hp_A (md_pic cA ad σ0) sz)) (F0 mm 217 ls []) := by
              intro j
              induction j with
              | zero => intro σ l2 l7 q H locs ls h; exact nomatch h
              | succ j ih =>
                intro σ l2 l7 q H locs ls h hw hl K
                refine lv_aload_n cx.1 cx.2.1 dX12_run_217 rfl (lv_at hl 0 rfl) ?_
                refine md_gI (k := 128) cx hw hin12c rfl (by decide) (List.mem_cons_of_mem _ mm_569) dX12_run_218 ?_
                refine lv_if_eq (tgt := 231) cx.1 cx.2.1 dX12_run_221 (by decide) (fun c221 => ?_) (fun c221 => ?_)
                · have h := md_ip c221 h
                  obtain rfl := Option.some.inj h
                  exact K _ _ _ hw (lv_sub hl [0, 1, 2] rfl)
                · have h := md_in c221 h
                  refine lv_aload_n cx.1 cx.2.1 dX12_run_224 rfl (lv_at hl 0 rfl) ?_
                  obtain ⟨p28, e_p28, h⟩ := md_ob h
                  refine hp_callVv (As := []) (rest := []) cx hw (km_X12_step l D cA E _ ad hj hE n σ  p28 e_p28) (cwV 0 cx.2.2.2.2.2.1 (md_giV mm_707 mm_708 mm_709 mm_5 mm_710) rfl rfl rfl hd_X12_step ⟨Nat.le_of_ble_eq_true rfl, Nat.le_of_ble_eq_true rfl⟩) md_at0 rfl rfl hl.1 rfl (Nat.le_of_ble_eq_true rfl) dX12_run_225 ⟨Nat.le_refl _, Nat.le_refl _⟩ (fun u H locs hp hw => ?_)
                  obtain rfl := hp
                  refine lv_goto (tgt := 217) cx.1 cx.2.1 dX12_run_228 (by decide) ?_
                  exact ih p28.2 l2 l7 q _ _ _ h hw (lv_sub hl [0, 1, 2] rfl) K
            obtain ⟨q29, e_q29, h⟩ := md_ob h
            refine L217 n σ l2 l7 q29 _ _ _ e_q29 hw (lv_sub hl [0, 1, 2] rfl) (fun H locs ls hw hl => ?_)
            refine lv_aload_n cx.1 cx.2.1 dX12_run_231 rfl (lv_at hl 0 rfl) ?_
            obtain ⟨p30, e_p30, h⟩ := md_ob h
            refine hp_callVi (As := []) (rest := []) cx hw (km_X12_ready l D cA E _ ad hj hE n q29  p30 e_p30) (cwV 0 cx.2.2.2.2.2.1 (md_giV mm_711 mm_712 mm_713 mm_5 mm_714) rfl rfl rfl hd_X12_ready ⟨Nat.le_of_ble_eq_true rfl, Nat.le_of_ble_eq_true rfl⟩) md_at0 rfl rfl hl.1 rfl (Nat.le_of_ble_eq_true rfl) dX12_run_232 ⟨Nat.le_refl _, Nat.le_refl _⟩ (fun r u H locs hp hw => ?_)
            obtain ⟨rfl, rfl⟩ := hp
            refine lv_istore (lv' := [(9, .int p30.1), (0, .ref (ad 137)), (2, .int l2), (7, .int l7)]) cx.1 cx.2.1 dX12_run_235 hl (by decide) rfl (fun ls hl => ?_)
            refine lv_aload_n cx.1 cx.2.1 dX12_run_237 rfl (lv_at hl 1 rfl) ?_
            refine md_gI (k := 129) cx hw hin12c rfl (by decide) (List.mem_cons_of_mem _ mm_579) dX12_run_238 ?_
            refine lv_if_ne (tgt := 253) cx.1 cx.2.1 dX12_run_241 (by decide) (fun c241 => ?_) (fun c241 => ?_)
            · have h := md_in c241 h
              exact J253 p30.2 l7 (p30.1) _ _ _ h hw (lv_sub hl [1, 2, 3, 0] rfl)
            · have h := md_ip c241 h
              refine lv_iload cx.1 cx.2.1 dX12_run_244 (lv_at hl 0 rfl) ?_
              refine lv_if_le (tgt := 253) cx.1 cx.2.1 dX12_run_246 (by decide) (fun c246 => ?_) (fun c246 => ?_)
              · have h := md_ip c246 h
                exact J253 p30.2 l7 (p30.1) _ _ _ h hw (lv_sub hl [1, 2, 3, 0] rfl)
              · have h := md_in c246 h
                refine lv_iconst (v := 1) cx.1 cx.2.1 dX12_run_249 (by decide) ?_
                refine lv_goto (tgt := 254) cx.1 cx.2.1 dX12_run_250 (by decide) ?_
                exact J254 p30.2 l7 (p30.1) 1 _ _ _ h hw (lv_sub hl [1, 2, 3, 0] rfl)
      obtain ⟨q31, e_q31, h⟩ := md_ob h
      refine L212 n σ25 l2 l2 1 q31 _ _ _ e_q31 hw (lv_sub hl [3, 5, 1, 0] rfl) (fun H locs ls hw hl => ?_)
      refine lv_aload_n cx.1 cx.2.1 dX12_run_299 rfl (lv_at hl 0 rfl) ?_
      refine lv_aload_n cx.1 cx.2.1 dX12_run_300 rfl (lv_at hl 0 rfl) ?_
      refine md_gI (k := 129) cx hw hin12c rfl (by decide) (List.mem_cons_of_mem _ mm_579) dX12_run_301 ?_
      refine lv_if_eq (tgt := 311) cx.1 cx.2.1 dX12_run_304 (by decide) (fun c304 => ?_) (fun c304 => ?_)
      · have h := md_ip c304 h
        refine lv_aload_n cx.1 cx.2.1 dX12_run_311 rfl (lv_at hl 0 rfl) ?_
        obtain ⟨p32, e_p32, h⟩ := md_ob h
        refine hp_callVi (As := []) (rest := [.ref (ad 137)]) cx hw (km_X12_going l D cA E _ ad hj hE n q31.1  p32 e_p32) (cwV 0 cx.2.2.2.2.2.1 (md_giV mm_720 mm_721 mm_722 mm_5 mm_723) rfl rfl rfl hd_X12_going ⟨Nat.le_of_ble_eq_true rfl, Nat.le_of_ble_eq_true rfl⟩) md_at0 rfl rfl hl.1 rfl (Nat.le_of_ble_eq_true rfl) dX12_run_312 ⟨Nat.le_refl _, Nat.le_refl _⟩ (fun r u H locs hp hw => ?_)
        obtain ⟨rfl, rfl⟩ := hp
        refine lv_if_le (tgt := 322) cx.1 cx.2.1 dX12_run_315 (by decide) (fun c315 => ?_) (fun c315 => ?_)
        · have h := md_ip c315 h
          refine lv_iconst (v := 0) cx.1 cx.2.1 dX12_run_322 (by decide) ?_
          exact J323 p32.2 0 _ _ _ h hw (lv_sub hl [0] rfl)
        · have h := md_in c315 h
          refine lv_iconst (v := 1) cx.1 cx.2.1 dX12_run_318 (by decide) ?_
          refine lv_goto (tgt := 323) cx.1 cx.2.1 dX12_run_319 (by decide) ?_
          exact J323 p32.2 1 _ _ _ h hw (lv_sub hl [0] rfl)
      · have h := md_in c304 h
        refine lv_iconst (v := 2) cx.1 cx.2.1 dX12_run_307 (by decide) ?_
        refine lv_goto (tgt := 323) cx.1 cx.2.1 dX12_run_308 (by decide) ?_
        exact J323 q31.1 2 _ _ _ h hw (lv_sub hl [0] rfl)
    · have h := md_in c81 h
      refine lv_iconst (v := 0) cx.1 cx.2.1 dX12_run_84 (by decide) ?_
      exact hp_iret cx hw (md_ret h) dX12_run_85
  have J50 : ∀ (σ : md_S) (l1 : Int32) (l2 : Int32) (l3 : Int32) (l4 : Int32) (t0 : Int32) (H : Heap) (locs : List Loc) (ls : Array Slot), f_X12_run_J50 n σ l1 l2 l3 l4 t0 = some p → hp_w D vwCl (hp_Tl cA) E (hp_A (md_pic cA ad σ0) sz) ss H locs (md_pic cA ad σ) → lv_has ls 11 [(0, .ref (ad 137)), (1, .int l1), (2, .int l2), (3, .int l3), (4, .int l4)] → W pp l ee ({ frames := 7, cells := 0, slots := 0, locals := 178 }) ss mm [.ref (ad 137), .int a1, .int a2, .int a3, .int a4].toArray bb mt cd H locs 0 0 (MQ bb (hp_Qi D vwCl (hp_Tl cA) sz (md_pic cA ad σ0) (fun r u => r = p.1 ∧ u = md_pic cA ad p.2)) [.ref (ad 137), .int a1, .int a2, .int a3, .int a4].toArray ss 0 0 (hp_A (md_pic cA ad σ0) sz)) (F0 mm 50 ls [.int t0]) := by
    intro σ l1 l2 l3 l4 t0 H locs ls h hw hl
    refine lv_istore (lv' := [(5, .int t0), (0, .ref (ad 137)), (1, .int l1), (2, .int l2), (3, .int l3), (4, .int l4)]) cx.1 cx.2.1 dX12_run_50 hl (by decide) rfl (fun ls hl => ?_)
    refine lv_aload_n cx.1 cx.2.1 dX12_run_52 rfl (lv_at hl 1 rfl) ?_
    refine lv_aload_n cx.1 cx.2.1 dX12_run_53 rfl (lv_at hl 1 rfl) ?_
    refine md_gI (k := 5) cx hw hin12c rfl (by decide) (List.mem_cons_of_mem _ mm_469) dX12_run_54 ?_
    refine lv_if_ne (tgt := 64) cx.1 cx.2.1 dX12_run_57 (by decide) (fun c57 => ?_) (fun c57 => ?_)
    · have h := md_in c57 h
      refine lv_iload cx.1 cx.2.1 dX12_run_64 (lv_at hl 0 rfl) ?_
      refine lv_if_eq (tgt := 73) cx.1 cx.2.1 dX12_run_66 (by decide) (fun c66 => ?_) (fun c66 => ?_)
      · have h := md_ip c66 h
        refine lv_iconst (v := 2) cx.1 cx.2.1 dX12_run_73 (by decide) ?_
        exact J74 σ l1 l2 l3 l4 2 _ _ _ h hw (lv_sub hl [1, 2, 3, 4, 5] rfl)
      · have h := md_in c66 h
        refine lv_iconst (v := 0) cx.1 cx.2.1 dX12_run_69 (by decide) ?_
        refine lv_goto (tgt := 74) cx.1 cx.2.1 dX12_run_70 (by decide) ?_
        exact J74 σ l1 l2 l3 l4 0 _ _ _ h hw (lv_sub hl [1, 2, 3, 4, 5] rfl)
    · have h := md_ip c57 h
      refine lv_iconst (v := 1) cx.1 cx.2.1 dX12_run_60 (by decide) ?_
      refine lv_goto (tgt := 74) cx.1 cx.2.1 dX12_run_61 (by decide) ?_
      exact J74 σ l1 l2 l3 l4 1 _ _ _ h hw (lv_sub hl [1, 2, 3, 4, 5] rfl)
  have J49 : ∀ (σ : md_S) (l1 : Int32) (l2 : Int32) (l3 : Int32) (l4 : Int32) (H : Heap) (locs : List Loc) (ls : Array Slot), f_X12_run_J49 n σ l1 l2 l3 l4 = some p → hp_w D vwCl (hp_Tl cA) E (hp_A (md_pic cA ad σ0) sz) ss H locs (md_pic cA ad σ) → lv_has ls 11 [(0, .ref (ad 137)), (1, .int l1), (2, .int l2), (3, .int l3), (4, .int l4)] → W pp l ee ({ frames := 7, cells := 0, slots := 0, locals := 178 }) ss mm [.ref (ad 137), .int a1, .int a2, .int a3, .int a4].toArray bb mt cd H locs 0 0 (MQ bb (hp_Qi D vwCl (hp_Tl cA) sz (md_pic cA ad σ0) (fun r u => r = p.1 ∧ u = md_pic cA ad p.2)) [.ref (ad 137), .int a1, .int a2, .int a3, .int a4].toArray ss 0 0 (hp_A (md_pic cA ad σ0) sz)) (F0 mm 49 ls []) := by
    intro σ l1 l2 l3 l4 H locs ls h hw hl
    refine lv_iconst (v := 0) cx.1 cx.2.1 dX12_run_49 (by decide) ?_
    exact J50 σ l1 l2 l3 l4 0 _ _ _ h hw (lv_sub hl [0, 1, 2, 3, 4] rfl)
  refine lv_aload_n cx.1 cx.2.1 dX12_run_0 rfl (lv_at hl 0 rfl) ?_
  refine md_gI (k := 5) cx hw hin12c rfl (by decide) (List.mem_cons_of_mem _ mm_469) dX12_run_1 ?_
  refine lv_if_eq (tgt := 49) cx.1 cx.2.1 dX12_run_4 (by decide) (fun c4 => ?_) (fun c4 => ?_)
  · have h := md_ip c4 h
    exact J49 σ0 a1 a2 a3 a4 _ _ _ h hw (lv_sub hl [0, 1, 2, 3, 4] rfl)
  · have h := md_in c4 h
    refine lv_aload_n cx.1 cx.2.1 dX12_run_7 rfl (lv_at hl 0 rfl) ?_
    refine lv_iload_n cx.1 cx.2.1 dX12_run_8 rfl (lv_at hl 1 rfl) ?_
    obtain ⟨p33, e_p33, h⟩ := md_ob h
    refine hp_callVi (As := [.int a1]) (rest := []) cx hw (km_X12_isUnit l D cA E _ ad hj hE n σ0 a1 p33 e_p33) (cwV 1 cx.2.2.2.2.2.1 (md_giV mm_488 mm_489 mm_490 mm_5 mm_491) rfl rfl rfl hd_X12_isUnit ⟨Nat.le_of_ble_eq_true rfl, Nat.le_of_ble_eq_true rfl⟩) md_at0 rfl rfl hl.1 rfl (Nat.le_of_ble_eq_true rfl) dX12_run_9 ⟨Nat.le_refl _, Nat.le_refl _⟩ (fun r u H locs hp hw => ?_)
    obtain ⟨rfl, rfl⟩ := hp
    refine lv_if_eq (tgt := 49) cx.1 cx.2.1 dX12_run_12 (by decide) (fun c12 => ?_) (fun c12 => ?_)
    · have h := md_ip c12 h
      exact J49 p33.2 a1 a2 a3 a4 _ _ _ h hw (lv_sub hl [0, 1, 2, 3, 4] rfl)
    · have h := md_in c12 h
      refine lv_aload_n cx.1 cx.2.1 dX12_run_15 rfl (lv_at hl 0 rfl) ?_
      refine md_gR (k := 36) cx hw hin12c (by decide) (by decide) (List.mem_cons_of_mem _ mm_139) dX12_run_16 ?_
      refine lv_iload_n cx.1 cx.2.1 dX12_run_19 rfl (lv_at hl 1 rfl) ?_
      obtain ⟨v34, e_v34, h⟩ := md_ob h
      refine md_lI (k := 36) hj cx hw (by decide) rfl rfl rfl e_v34 dX12_run_20 ?_
      refine lv_if_ne (tgt := 49) cx.1 cx.2.1 dX12_run_21 (by decide) (fun c21 => ?_) (fun c21 => ?_)
      · have h := md_in c21 h
        exact J49 p33.2 a1 a2 a3 a4 _ _ _ h hw (lv_sub hl [0, 1, 2, 3, 4] rfl)
      · have h := md_ip c21 h
        refine lv_aload_n cx.1 cx.2.1 dX12_run_24 rfl (lv_at hl 0 rfl) ?_
        refine md_gR (k := 39) cx hw hin12c (by decide) (by decide) (List.mem_cons_of_mem _ mm_140) dX12_run_25 ?_
        refine lv_iload_n cx.1 cx.2.1 dX12_run_28 rfl (lv_at hl 1 rfl) ?_
        obtain ⟨v35, e_v35, h⟩ := md_ob h
        refine md_lI (k := 39) hj cx hw (by decide) rfl rfl rfl e_v35 dX12_run_29 ?_
        refine lv_if_ne (tgt := 49) cx.1 cx.2.1 dX12_run_30 (by decide) (fun c30 => ?_) (fun c30 => ?_)
        · have h := md_in c30 h
          exact J49 p33.2 a1 a2 a3 a4 _ _ _ h hw (lv_sub hl [0, 1, 2, 3, 4] rfl)
        · have h := md_ip c30 h
          refine lv_iload_n cx.1 cx.2.1 dX12_run_33 rfl (lv_at hl 3 rfl) ?_
          refine lv_i2l (v := (a3.toInt64)) cx.1 cx.2.1 dX12_run_34 rfl ?_
          refine lv_lconst (v := 1) cx.1 cx.2.1 dX12_run_35 (by decide) ?_
          refine lv_ldc2 cx.1 cx.2.1 cx.2.2.2.2.1 (cx.2.2.2.2.2.1 _ (List.mem_cons_of_mem _ mm_706)) dX12_run_36 ?_
          obtain ⟨p36, e_p36, h⟩ := md_ob h
          refine hp_callSi (As := [.long (a3.toInt64), .long 1, .long 4000]) (rest := []) cx hw (km_X12_in l D cA E _ ad hj hE n p33.2 ((a3.toInt64)) (1 : Int64) (4000 : Int64) p36 e_p36) (cwS 3 cx.2.2.2.2.2.1 (md_giS mm_3 mm_4 mm_5 mm_6) rfl rfl rfl hd_X12_in ⟨Nat.le_of_ble_eq_true rfl, Nat.le_of_ble_eq_true rfl⟩) rfl hl.1 rfl (Nat.le_of_ble_eq_true rfl) dX12_run_39 ⟨Nat.le_refl _, Nat.le_refl _⟩ (fun r u H locs hp hw => ?_)
          obtain ⟨rfl, rfl⟩ := hp
          refine lv_if_eq (tgt := 49) cx.1 cx.2.1 dX12_run_42 (by decide) (fun c42 => ?_) (fun c42 => ?_)
          · have h := md_ip c42 h
            exact J49 p36.2 a1 a2 a3 a4 _ _ _ h hw (lv_sub hl [0, 1, 2, 3, 4] rfl)
          · have h := md_in c42 h
            refine lv_iconst (v := 1) cx.1 cx.2.1 dX12_run_45 (by decide) ?_
            refine lv_goto (tgt := 50) cx.1 cx.2.1 dX12_run_46 (by decide) ?_
            exact J50 p36.2 a1 a2 a3 a4 1 _ _ _ h hw (lv_sub hl [0, 1, 2, 3, 4] rfl)
set_option maxHeartbeats 4000000 in
set_option maxRecDepth 100000 in
theorem km_X12_result (l : Launch) (D : va_G) (cA : Nat → ClassId) (E : hp_N) (sz : Nat) (ad : Nat → Nat) (hj : md_inj ad) (hE : md_E E) (n : Nat) (σ0 : md_S) (a1 : Int32) (p : (Int32 × md_S)) (h : f_X12_result n σ0 a1 = some p) : Met l yX12_result (Cond.code yX12_result cX12_result 2 (some .int) :: v_MOD) ({ frames := 0, cells := 0, slots := 0, locals := 0 }) (hp_Pc D vwCl (hp_Tl cA) E sz (md_pic cA ad σ0) [.ref (ad 137), .int a1]) (hp_Qi D vwCl (hp_Tl cA) sz (md_pic cA ad σ0) (fun r u => r = p.1 ∧ u = md_pic cA ad p.2)) 0 0 (hp_A (md_pic cA ad σ0) sz) := by
  refine hp_ofW (cc := cX12_result) (maxL := 2) (ret := (some .int)) (by decide) rfl (Nat.le_of_ble_eq_true rfl) ?_
  intro pp ee ss mm bb mt cd ls cx hsz hw hl
  have hl : lv_has ls 2 [(0, .ref (ad 137)), (1, .int a1)] := hl
  refine lv_aload_n cx.1 cx.2.1 dX12_result_0 rfl (lv_at hl 0 rfl) ?_
  refine lv_iconst (v := 0) cx.1 cx.2.1 dX12_result_1 (by decide) ?_
  obtain ⟨σ1, e_σ1, h⟩ := md_ob h
  refine md_pI (k := 0) cx hw hin12c rfl (by decide) rfl (List.mem_cons_of_mem _ mm_0) rfl e_σ1 dX12_result_2 (fun H locs hw => ?_)
  refine lv_aload_n cx.1 cx.2.1 dX12_result_5 rfl (lv_at hl 0 rfl) ?_
  refine md_gI (k := 86) cx hw hin12c rfl (by decide) (List.mem_cons_of_mem _ mm_468) dX12_result_6 ?_
  refine lv_if_ne (tgt := 14) cx.1 cx.2.1 dX12_result_9 (by decide) (fun c9 => ?_) (fun c9 => ?_)
  · have h := md_in c9 h
    refine lv_iload_n cx.1 cx.2.1 dX12_result_14 rfl (lv_at hl 1 rfl) ?_
    by_cases c15_0 : a1 = 0
    · refine lv_tableIn (off := 45) (tgt := 60) cx.1 cx.2.1 dX12_result_15 (by rw [c15_0]; decide) (by rw [c15_0]; decide) (by rw [c15_0]; decide) (by decide) ?_
      have h := md_ip c15_0 h
      refine lv_aload_n cx.1 cx.2.1 dX12_result_60 rfl (lv_at hl 0 rfl) ?_
      refine md_gI (k := 88) cx hw hin12c rfl (by decide) (List.mem_cons_of_mem _ mm_724) dX12_result_61 ?_
      exact hp_iret cx hw (md_ret h) dX12_result_64
    have h := md_in c15_0 h
    by_cases c15_1 : a1 = 1
    · refine lv_tableIn (off := 50) (tgt := 65) cx.1 cx.2.1 dX12_result_15 (by rw [c15_1]; decide) (by rw [c15_1]; decide) (by rw [c15_1]; decide) (by decide) ?_
      have h := md_ip c15_1 h
      refine lv_aload_n cx.1 cx.2.1 dX12_result_65 rfl (lv_at hl 0 rfl) ?_
      refine md_gI (k := 89) cx hw hin12c rfl (by decide) (List.mem_cons_of_mem _ mm_572) dX12_result_66 ?_
      exact hp_iret cx hw (md_ret h) dX12_result_69
    have h := md_in c15_1 h
    by_cases c15_2 : a1 = 2
    · refine lv_tableIn (off := 55) (tgt := 70) cx.1 cx.2.1 dX12_result_15 (by rw [c15_2]; decide) (by rw [c15_2]; decide) (by rw [c15_2]; decide) (by decide) ?_
      have h := md_ip c15_2 h
      refine lv_aload_n cx.1 cx.2.1 dX12_result_70 rfl (lv_at hl 0 rfl) ?_
      refine md_gI (k := 105) cx hw hin12c rfl (by decide) (List.mem_cons_of_mem _ mm_612) dX12_result_71 ?_
      exact hp_iret cx hw (md_ret h) dX12_result_74
    have h := md_in c15_2 h
    by_cases c15_3 : a1 = 3
    · refine lv_tableIn (off := 60) (tgt := 75) cx.1 cx.2.1 dX12_result_15 (by rw [c15_3]; decide) (by rw [c15_3]; decide) (by rw [c15_3]; decide) (by decide) ?_
      have h := md_ip c15_3 h
      refine lv_aload_n cx.1 cx.2.1 dX12_result_75 rfl (lv_at hl 0 rfl) ?_
      refine md_gI (k := 91) cx hw hin12c rfl (by decide) (List.mem_cons_of_mem _ mm_544) dX12_result_76 ?_
      exact hp_iret cx hw (md_ret h) dX12_result_79
    have h := md_in c15_3 h
    by_cases c15_4 : a1 = 4
    · refine lv_tableIn (off := 65) (tgt := 80) cx.1 cx.2.1 dX12_result_15 (by rw [c15_4]; decide) (by rw [c15_4]; decide) (by rw [c15_4]; decide) (by decide) ?_
      have h := md_ip c15_4 h
      refine lv_aload_n cx.1 cx.2.1 dX12_result_80 rfl (lv_at hl 0 rfl) ?_
      refine md_gI (k := 93) cx hw hin12c rfl (by decide) (List.mem_cons_of_mem _ mm_588) dX12_result_81 ?_
      exact hp_iret cx hw (md_ret h) dX12_result_84
    have h := md_in c15_4 h
    by_cases c15_5 : a1 = 5
    · refine lv_tableIn (off := 70) (tgt := 85) cx.1 cx.2.1 dX12_result_15 (by rw [c15_5]; decide) (by rw [c15_5]; decide) (by rw [c15_5]; decide) (by decide) ?_
      have h := md_ip c15_5 h
      refine lv_aload_n cx.1 cx.2.1 dX12_result_85 rfl (lv_at hl 0 rfl) ?_
      refine md_gI (k := 95) cx hw hin12c rfl (by decide) (List.mem_cons_of_mem _ mm_594) dX12_result_86 ?_
      exact hp_iret cx hw (md_ret h) dX12_result_89
    have h := md_in c15_5 h
    by_cases c15_6 : a1 = 6
    · refine lv_tableIn (off := 75) (tgt := 90) cx.1 cx.2.1 dX12_result_15 (by rw [c15_6]; decide) (by rw [c15_6]; decide) (by rw [c15_6]; decide) (by decide) ?_
      have h := md_ip c15_6 h
      refine lv_aload_n cx.1 cx.2.1 dX12_result_90 rfl (lv_at hl 0 rfl) ?_
      refine md_gI (k := 94) cx hw hin12c rfl (by decide) (List.mem_cons_of_mem _ mm_534) dX12_result_91 ?_
      exact hp_iret cx hw (md_ret h) dX12_result_94
    have h := md_in c15_6 h
    by_cases c15_7 : a1 = 7
    · refine lv_tableIn (off := 80) (tgt := 95) cx.1 cx.2.1 dX12_result_15 (by rw [c15_7]; decide) (by rw [c15_7]; decide) (by rw [c15_7]; decide) (by decide) ?_
      have h := md_ip c15_7 h
      refine lv_aload_n cx.1 cx.2.1 dX12_result_95 rfl (lv_at hl 0 rfl) ?_
      refine md_gI (k := 130) cx hw hin12c rfl (by decide) (List.mem_cons_of_mem _ mm_523) dX12_result_96 ?_
      refine lv_iconst (v := 1) cx.1 cx.2.1 dX12_result_99 (by decide) ?_
      refine lv_isub cx.1 cx.2.1 dX12_result_100 ?_
      exact hp_iret cx hw (md_ret h) dX12_result_101
    have h := md_in c15_7 h
    have nc15_0 := md_nei c15_0
    have nc15_1 := md_nei c15_1
    have nc15_2 := md_nei c15_2
    have nc15_3 := md_nei c15_3
    have nc15_4 := md_nei c15_4
    have nc15_5 := md_nei c15_5
    have nc15_6 := md_nei c15_6
    have nc15_7 := md_nei c15_7
    refine lv_tableOut (tgt := 102) cx.1 cx.2.1 dX12_result_15 (by have := nc15_0; rw [show ((0 : Int32)).toInt = 0 from by decide] at this; have := nc15_1; rw [show ((1 : Int32)).toInt = 1 from by decide] at this; have := nc15_2; rw [show ((2 : Int32)).toInt = 2 from by decide] at this; have := nc15_3; rw [show ((3 : Int32)).toInt = 3 from by decide] at this; have := nc15_4; rw [show ((4 : Int32)).toInt = 4 from by decide] at this; have := nc15_5; rw [show ((5 : Int32)).toInt = 5 from by decide] at this; have := nc15_6; rw [show ((6 : Int32)).toInt = 6 from by decide] at this; have := nc15_7; rw [show ((7 : Int32)).toInt = 7 from by decide] at this;  omega) (by decide) ?_
    refine lv_iconst (v := (-1)) cx.1 cx.2.1 dX12_result_102 (by decide) ?_
    exact hp_iret cx hw (md_ret h) dX12_result_103
  · have h := md_ip c9 h
    refine lv_iconst (v := (-1)) cx.1 cx.2.1 dX12_result_12 (by decide) ?_
    exact hp_iret cx hw (md_ret h) dX12_result_13
set_option maxHeartbeats 4000000 in
set_option maxRecDepth 100000 in
theorem km_X12_event (l : Launch) (D : va_G) (cA : Nat → ClassId) (E : hp_N) (sz : Nat) (ad : Nat → Nat) (hj : md_inj ad) (hE : md_E E) (n : Nat) (σ0 : md_S) (a1 : Int32) (a2 : Int32) (p : (Int32 × md_S)) (h : f_X12_event n σ0 a1 a2 = some p) : Met l yX12_event (Cond.code yX12_event cX12_event 4 (some .int) :: v_MOD) ({ frames := 1, cells := 0, slots := 0, locals := 25 }) (hp_Pc D vwCl (hp_Tl cA) E sz (md_pic cA ad σ0) [.ref (ad 137), .int a1, .int a2]) (hp_Qi D vwCl (hp_Tl cA) sz (md_pic cA ad σ0) (fun r u => r = p.1 ∧ u = md_pic cA ad p.2)) 0 0 (hp_A (md_pic cA ad σ0) sz) := by
  refine hp_ofW (cc := cX12_event) (maxL := 4) (ret := (some .int)) (by decide) rfl (Nat.le_of_ble_eq_true rfl) ?_
  intro pp ee ss mm bb mt cd ls cx hsz hw hl
  have hl : lv_has ls 4 [(0, .ref (ad 137)), (1, .int a1), (2, .int a2)] := hl
  have J48 : ∀ (σ : md_S) (l1 : Int32) (l2 : Int32) (t0 : Int32) (H : Heap) (locs : List Loc) (ls : Array Slot), f_X12_event_J48 n σ l1 l2 t0 = some p → hp_w D vwCl (hp_Tl cA) E (hp_A (md_pic cA ad σ0) sz) ss H locs (md_pic cA ad σ) → lv_has ls 4 [(0, .ref (ad 137)), (1, .int l1), (2, .int l2)] → W pp l ee ({ frames := 1, cells := 0, slots := 0, locals := 25 }) ss mm [.ref (ad 137), .int a1, .int a2].toArray bb mt cd H locs 0 0 (MQ bb (hp_Qi D vwCl (hp_Tl cA) sz (md_pic cA ad σ0) (fun r u => r = p.1 ∧ u = md_pic cA ad p.2)) [.ref (ad 137), .int a1, .int a2].toArray ss 0 0 (hp_A (md_pic cA ad σ0) sz)) (F0 mm 48 ls [.int t0]) := by
    intro σ l1 l2 t0 H locs ls h hw hl
    refine lv_istore_n (lv' := [(3, .int t0), (0, .ref (ad 137)), (1, .int l1), (2, .int l2)]) cx.1 cx.2.1 dX12_event_48 rfl hl (by decide) rfl (fun ls hl => ?_)
    refine lv_iload_n cx.1 cx.2.1 dX12_event_49 rfl (lv_at hl 0 rfl) ?_
    refine lv_if_eq (tgt := 66) cx.1 cx.2.1 dX12_event_50 (by decide) (fun c50 => ?_) (fun c50 => ?_)
    · have h := md_ip c50 h
      refine lv_iconst (v := (-1)) cx.1 cx.2.1 dX12_event_66 (by decide) ?_
      exact hp_iret cx hw (md_ret h) dX12_event_67
    · have h := md_in c50 h
      refine lv_aload_n cx.1 cx.2.1 dX12_event_53 rfl (lv_at hl 1 rfl) ?_
      refine md_gR (k := 92) cx hw hin12c (by decide) (by decide) (List.mem_cons_of_mem _ mm_545) dX12_event_54 ?_
      refine lv_iconst (v := 5) cx.1 cx.2.1 dX12_event_57 (by decide) ?_
      refine lv_iload_n cx.1 cx.2.1 dX12_event_58 rfl (lv_at hl 2 rfl) ?_
      refine lv_imul cx.1 cx.2.1 dX12_event_59 ?_
      refine lv_iload_n cx.1 cx.2.1 dX12_event_60 rfl (lv_at hl 3 rfl) ?_
      refine lv_iadd cx.1 cx.2.1 dX12_event_61 ?_
      obtain ⟨v1, e_v1, h⟩ := md_ob h
      refine md_lI (k := 92) hj cx hw (by decide) rfl rfl rfl e_v1 dX12_event_62 ?_
      refine lv_goto (tgt := 67) cx.1 cx.2.1 dX12_event_63 (by decide) ?_
      exact hp_iret cx hw (md_ret h) dX12_event_67
  have J47 : ∀ (σ : md_S) (l1 : Int32) (l2 : Int32) (H : Heap) (locs : List Loc) (ls : Array Slot), f_X12_event_J47 n σ l1 l2 = some p → hp_w D vwCl (hp_Tl cA) E (hp_A (md_pic cA ad σ0) sz) ss H locs (md_pic cA ad σ) → lv_has ls 4 [(0, .ref (ad 137)), (1, .int l1), (2, .int l2)] → W pp l ee ({ frames := 1, cells := 0, slots := 0, locals := 25 }) ss mm [.ref (ad 137), .int a1, .int a2].toArray bb mt cd H locs 0 0 (MQ bb (hp_Qi D vwCl (hp_Tl cA) sz (md_pic cA ad σ0) (fun r u => r = p.1 ∧ u = md_pic cA ad p.2)) [.ref (ad 137), .int a1, .int a2].toArray ss 0 0 (hp_A (md_pic cA ad σ0) sz)) (F0 mm 47 ls []) := by
    intro σ l1 l2 H locs ls h hw hl
    refine lv_iconst (v := 0) cx.1 cx.2.1 dX12_event_47 (by decide) ?_
    exact J48 σ l1 l2 0 _ _ _ h hw (lv_sub hl [0, 1, 2] rfl)
  refine lv_aload_n cx.1 cx.2.1 dX12_event_0 rfl (lv_at hl 0 rfl) ?_
  refine lv_iconst (v := 0) cx.1 cx.2.1 dX12_event_1 (by decide) ?_
  obtain ⟨σ2, e_σ2, h⟩ := md_ob h
  refine md_pI (k := 0) cx hw hin12c rfl (by decide) rfl (List.mem_cons_of_mem _ mm_0) rfl e_σ2 dX12_event_2 (fun H locs hw => ?_)
  refine lv_aload_n cx.1 cx.2.1 dX12_event_5 rfl (lv_at hl 0 rfl) ?_
  refine md_gI (k := 86) cx hw hin12c rfl (by decide) (List.mem_cons_of_mem _ mm_468) dX12_event_6 ?_
  refine lv_if_eq (tgt := 47) cx.1 cx.2.1 dX12_event_9 (by decide) (fun c9 => ?_) (fun c9 => ?_)
  · have h := md_ip c9 h
    exact J47 σ2 a1 a2 _ _ _ h hw (lv_sub hl [0, 1, 2] rfl)
  · have h := md_in c9 h
    refine lv_iload_n cx.1 cx.2.1 dX12_event_12 rfl (lv_at hl 1 rfl) ?_
    refine lv_if_lt (tgt := 47) cx.1 cx.2.1 dX12_event_13 (by decide) (fun c13 => ?_) (fun c13 => ?_)
    · have h := md_ip c13 h
      exact J47 σ2 a1 a2 _ _ _ h hw (lv_sub hl [0, 1, 2] rfl)
    · have h := md_in c13 h
      refine lv_iload_n cx.1 cx.2.1 dX12_event_16 rfl (lv_at hl 1 rfl) ?_
      refine lv_aload_n cx.1 cx.2.1 dX12_event_17 rfl (lv_at hl 0 rfl) ?_
      refine md_gI (k := 91) cx hw hin12c rfl (by decide) (List.mem_cons_of_mem _ mm_544) dX12_event_18 ?_
      refine lv_icmp_ge (tgt := 47) cx.1 cx.2.1 dX12_event_21 (by decide) (fun c21 => ?_) (fun c21 => ?_)
      · have h := md_ip c21 h
        exact J47 σ2 a1 a2 _ _ _ h hw (lv_sub hl [0, 1, 2] rfl)
      · have h := md_in c21 h
        refine lv_iload_n cx.1 cx.2.1 dX12_event_24 rfl (lv_at hl 1 rfl) ?_
        refine lv_sipush (v := 200) cx.1 cx.2.1 dX12_event_25 (by decide) ?_
        refine lv_icmp_ge (tgt := 47) cx.1 cx.2.1 dX12_event_28 (by decide) (fun c28 => ?_) (fun c28 => ?_)
        · have h := md_ip c28 h
          exact J47 σ2 a1 a2 _ _ _ h hw (lv_sub hl [0, 1, 2] rfl)
        · have h := md_in c28 h
          refine lv_iload_n cx.1 cx.2.1 dX12_event_31 rfl (lv_at hl 2 rfl) ?_
          refine lv_i2l (v := (a2.toInt64)) cx.1 cx.2.1 dX12_event_32 rfl ?_
          refine lv_lconst (v := 0) cx.1 cx.2.1 dX12_event_33 (by decide) ?_
          refine lv_ldc2 cx.1 cx.2.1 cx.2.2.2.2.1 (cx.2.2.2.2.2.1 _ (List.mem_cons_of_mem _ mm_725)) dX12_event_34 ?_
          obtain ⟨p3, e_p3, h⟩ := md_ob h
          refine hp_callSi (As := [.long (a2.toInt64), .long 0, .long 4]) (rest := []) cx hw (km_X12_in l D cA E _ ad hj hE n σ2 ((a2.toInt64)) (0 : Int64) (4 : Int64) p3 e_p3) (cwS 3 cx.2.2.2.2.2.1 (md_giS mm_3 mm_4 mm_5 mm_6) rfl rfl rfl hd_X12_in ⟨Nat.le_of_ble_eq_true rfl, Nat.le_of_ble_eq_true rfl⟩) rfl hl.1 rfl (Nat.le_of_ble_eq_true rfl) dX12_event_37 ⟨Nat.le_refl _, Nat.le_refl _⟩ (fun r u H locs hp hw => ?_)
          obtain ⟨rfl, rfl⟩ := hp
          refine lv_if_eq (tgt := 47) cx.1 cx.2.1 dX12_event_40 (by decide) (fun c40 => ?_) (fun c40 => ?_)
          · have h := md_ip c40 h
            exact J47 p3.2 a1 a2 _ _ _ h hw (lv_sub hl [0, 1, 2] rfl)
          · have h := md_in c40 h
            refine lv_iconst (v := 1) cx.1 cx.2.1 dX12_event_43 (by decide) ?_
            refine lv_goto (tgt := 48) cx.1 cx.2.1 dX12_event_44 (by decide) ?_
            exact J48 p3.2 a1 a2 1 _ _ _ h hw (lv_sub hl [0, 1, 2] rfl)
set_option maxHeartbeats 4000000 in
set_option maxRecDepth 100000 in
theorem km_X12_thread (l : Launch) (D : va_G) (cA : Nat → ClassId) (E : hp_N) (sz : Nat) (ad : Nat → Nat) (hj : md_inj ad) (hE : md_E E) (n : Nat) (σ0 : md_S) (a1 : Int32) (a2 : Int32) (p : (Int32 × md_S)) (h : f_X12_thread n σ0 a1 a2 = some p) : Met l yX12_thread (Cond.code yX12_thread cX12_thread 3 (some .int) :: v_MOD) ({ frames := 1, cells := 0, slots := 0, locals := 25 }) (hp_Pc D vwCl (hp_Tl cA) E sz (md_pic cA ad σ0) [.ref (ad 137), .int a1, .int a2]) (hp_Qi D vwCl (hp_Tl cA) sz (md_pic cA ad σ0) (fun r u => r = p.1 ∧ u = md_pic cA ad p.2)) 0 0 (hp_A (md_pic cA ad σ0) sz) := by
  refine hp_ofW (cc := cX12_thread) (maxL := 3) (ret := (some .int)) (by decide) rfl (Nat.le_of_ble_eq_true rfl) ?_
  intro pp ee ss mm bb mt cd ls cx hsz hw hl
  have hl : lv_has ls 3 [(0, .ref (ad 137)), (1, .int a1), (2, .int a2)] := hl
  have J163 : ∀ (σ : md_S) (H : Heap) (locs : List Loc) (ls : Array Slot), f_X12_thread_J163 n σ = some p → hp_w D vwCl (hp_Tl cA) E (hp_A (md_pic cA ad σ0) sz) ss H locs (md_pic cA ad σ) → lv_has ls 3 [] → W pp l ee ({ frames := 1, cells := 0, slots := 0, locals := 25 }) ss mm [.ref (ad 137), .int a1, .int a2].toArray bb mt cd H locs 0 0 (MQ bb (hp_Qi D vwCl (hp_Tl cA) sz (md_pic cA ad σ0) (fun r u => r = p.1 ∧ u = md_pic cA ad p.2)) [.ref (ad 137), .int a1, .int a2].toArray ss 0 0 (hp_A (md_pic cA ad σ0) sz)) (F0 mm 163 ls []) := by
    intro σ H locs ls h hw hl
    refine lv_iconst (v := (-1)) cx.1 cx.2.1 dX12_thread_163 (by decide) ?_
    refine lv_goto (tgt := 173) cx.1 cx.2.1 dX12_thread_164 (by decide) ?_
    exact hp_iret cx hw (md_ret h) dX12_thread_173
  have J100 : ∀ (σ : md_S) (l1 : Int32) (H : Heap) (locs : List Loc) (ls : Array Slot), f_X12_thread_J100 n σ l1 = some p → hp_w D vwCl (hp_Tl cA) E (hp_A (md_pic cA ad σ0) sz) ss H locs (md_pic cA ad σ) → lv_has ls 3 [(0, .ref (ad 137)), (1, .int l1)] → W pp l ee ({ frames := 1, cells := 0, slots := 0, locals := 25 }) ss mm [.ref (ad 137), .int a1, .int a2].toArray bb mt cd H locs 0 0 (MQ bb (hp_Qi D vwCl (hp_Tl cA) sz (md_pic cA ad σ0) (fun r u => r = p.1 ∧ u = md_pic cA ad p.2)) [.ref (ad 137), .int a1, .int a2].toArray ss 0 0 (hp_A (md_pic cA ad σ0) sz)) (F0 mm 100 ls []) := by
    intro σ l1 H locs ls h hw hl
    refine lv_aload_n cx.1 cx.2.1 dX12_thread_100 rfl (lv_at hl 0 rfl) ?_
    refine md_gR (k := 110) cx hw hin12c (by decide) (by decide) (List.mem_cons_of_mem _ mm_563) dX12_thread_101 ?_
    refine lv_iload_n cx.1 cx.2.1 dX12_thread_104 rfl (lv_at hl 1 rfl) ?_
    obtain ⟨v1, e_v1, h⟩ := md_ob h
    refine md_lI (k := 110) hj cx hw (by decide) rfl rfl rfl e_v1 dX12_thread_105 ?_
    refine lv_goto (tgt := 110) cx.1 cx.2.1 dX12_thread_106 (by decide) ?_
    exact hp_iret cx hw (md_ret h) dX12_thread_110
  refine lv_aload_n cx.1 cx.2.1 dX12_thread_0 rfl (lv_at hl 0 rfl) ?_
  refine lv_iconst (v := 0) cx.1 cx.2.1 dX12_thread_1 (by decide) ?_
  obtain ⟨σ2, e_σ2, h⟩ := md_ob h
  refine md_pI (k := 0) cx hw hin12c rfl (by decide) rfl (List.mem_cons_of_mem _ mm_0) rfl e_σ2 dX12_thread_2 (fun H locs hw => ?_)
  refine lv_aload_n cx.1 cx.2.1 dX12_thread_5 rfl (lv_at hl 0 rfl) ?_
  refine md_gI (k := 86) cx hw hin12c rfl (by decide) (List.mem_cons_of_mem _ mm_468) dX12_thread_6 ?_
  refine lv_if_eq (tgt := 28) cx.1 cx.2.1 dX12_thread_9 (by decide) (fun c9 => ?_) (fun c9 => ?_)
  · have h := md_ip c9 h
    refine lv_iconst (v := (-1)) cx.1 cx.2.1 dX12_thread_28 (by decide) ?_
    exact hp_iret cx hw (md_ret h) dX12_thread_29
  · have h := md_in c9 h
    refine lv_iload_n cx.1 cx.2.1 dX12_thread_12 rfl (lv_at hl 1 rfl) ?_
    refine lv_i2l (v := (a1.toInt64)) cx.1 cx.2.1 dX12_thread_13 rfl ?_
    refine lv_lconst (v := 0) cx.1 cx.2.1 dX12_thread_14 (by decide) ?_
    refine lv_aload_n cx.1 cx.2.1 dX12_thread_15 rfl (lv_at hl 0 rfl) ?_
    refine md_gI (k := 105) cx hw hin12c rfl (by decide) (List.mem_cons_of_mem _ mm_612) dX12_thread_16 ?_
    refine lv_iconst (v := 1) cx.1 cx.2.1 dX12_thread_19 (by decide) ?_
    refine lv_isub cx.1 cx.2.1 dX12_thread_20 ?_
    refine lv_i2l (v := (((mI σ2 105) - 1).toInt64)) cx.1 cx.2.1 dX12_thread_21 rfl ?_
    obtain ⟨p3, e_p3, h⟩ := md_ob h
    refine hp_callSi (As := [.long (a1.toInt64), .long 0, .long (((mI σ2 105) - 1).toInt64)]) (rest := []) cx hw (km_X12_in l D cA E _ ad hj hE n σ2 ((a1.toInt64)) (0 : Int64) ((((mI σ2 105) - 1).toInt64)) p3 e_p3) (cwS 3 cx.2.2.2.2.2.1 (md_giS mm_3 mm_4 mm_5 mm_6) rfl rfl rfl hd_X12_in ⟨Nat.le_of_ble_eq_true rfl, Nat.le_of_ble_eq_true rfl⟩) rfl hl.1 rfl (Nat.le_of_ble_eq_true rfl) dX12_thread_22 ⟨Nat.le_refl _, Nat.le_refl _⟩ (fun r u H locs hp hw => ?_)
    obtain ⟨rfl, rfl⟩ := hp
    refine lv_if_ne (tgt := 30) cx.1 cx.2.1 dX12_thread_25 (by decide) (fun c25 => ?_) (fun c25 => ?_)
    · have h := md_in c25 h
      refine lv_iload_n cx.1 cx.2.1 dX12_thread_30 rfl (lv_at hl 2 rfl) ?_
      by_cases c31_0 : a2 = 0
      · refine lv_tableIn (off := 33) (tgt := 64) cx.1 cx.2.1 dX12_thread_31 (by rw [c31_0]; decide) (by rw [c31_0]; decide) (by rw [c31_0]; decide) (by decide) ?_
        have h := md_ip c31_0 h
        refine lv_aload_n cx.1 cx.2.1 dX12_thread_64 rfl (lv_at hl 0 rfl) ?_
        refine md_gR (k := 106) cx hw hin12c (by decide) (by decide) (List.mem_cons_of_mem _ mm_562) dX12_thread_65 ?_
        refine lv_iload_n cx.1 cx.2.1 dX12_thread_68 rfl (lv_at hl 1 rfl) ?_
        obtain ⟨v4, e_v4, h⟩ := md_ob h
        refine md_lI (k := 106) hj cx hw (by decide) rfl rfl rfl e_v4 dX12_thread_69 ?_
        exact hp_iret cx hw (md_ret h) dX12_thread_70
      have h := md_in c31_0 h
      by_cases c31_1 : a2 = 1
      · refine lv_tableIn (off := 40) (tgt := 71) cx.1 cx.2.1 dX12_thread_31 (by rw [c31_1]; decide) (by rw [c31_1]; decide) (by rw [c31_1]; decide) (by decide) ?_
        have h := md_ip c31_1 h
        refine lv_aload_n cx.1 cx.2.1 dX12_thread_71 rfl (lv_at hl 0 rfl) ?_
        refine md_gR (k := 106) cx hw hin12c (by decide) (by decide) (List.mem_cons_of_mem _ mm_562) dX12_thread_72 ?_
        refine lv_iload_n cx.1 cx.2.1 dX12_thread_75 rfl (lv_at hl 1 rfl) ?_
        obtain ⟨v5, e_v5, h⟩ := md_ob h
        refine md_lI (k := 106) hj cx hw (by decide) rfl rfl rfl e_v5 dX12_thread_76 ?_
        refine lv_iconst (v := 2) cx.1 cx.2.1 dX12_thread_77 (by decide) ?_
        refine lv_icmp_eq (tgt := 100) cx.1 cx.2.1 dX12_thread_78 (by decide) (fun c78 => ?_) (fun c78 => ?_)
        · have h := md_ip c78 h
          exact J100 p3.2 a1 _ _ _ h hw (lv_sub hl [0, 1] rfl)
        · have h := md_in c78 h
          refine lv_aload_n cx.1 cx.2.1 dX12_thread_81 rfl (lv_at hl 0 rfl) ?_
          refine md_gR (k := 106) cx hw hin12c (by decide) (by decide) (List.mem_cons_of_mem _ mm_562) dX12_thread_82 ?_
          refine lv_iload_n cx.1 cx.2.1 dX12_thread_85 rfl (lv_at hl 1 rfl) ?_
          obtain ⟨v6, e_v6, h⟩ := md_ob h
          refine md_lI (k := 106) hj cx hw (by decide) rfl rfl rfl e_v6 dX12_thread_86 ?_
          refine lv_iconst (v := 1) cx.1 cx.2.1 dX12_thread_87 (by decide) ?_
          refine lv_icmp_ne (tgt := 109) cx.1 cx.2.1 dX12_thread_88 (by decide) (fun c88 => ?_) (fun c88 => ?_)
          · have h := md_in c88 h
            refine lv_iconst (v := 0) cx.1 cx.2.1 dX12_thread_109 (by decide) ?_
            exact hp_iret cx hw (md_ret h) dX12_thread_110
          · have h := md_ip c88 h
            refine lv_aload_n cx.1 cx.2.1 dX12_thread_91 rfl (lv_at hl 0 rfl) ?_
            refine md_gR (k := 109) cx hw hin12c (by decide) (by decide) (List.mem_cons_of_mem _ mm_564) dX12_thread_92 ?_
            refine lv_iload_n cx.1 cx.2.1 dX12_thread_95 rfl (lv_at hl 1 rfl) ?_
            obtain ⟨v7, e_v7, h⟩ := md_ob h
            refine md_lI (k := 109) hj cx hw (by decide) rfl rfl rfl e_v7 dX12_thread_96 ?_
            refine lv_if_ne (tgt := 109) cx.1 cx.2.1 dX12_thread_97 (by decide) (fun c97 => ?_) (fun c97 => ?_)
            · have h := md_in c97 h
              refine lv_iconst (v := 0) cx.1 cx.2.1 dX12_thread_109 (by decide) ?_
              exact hp_iret cx hw (md_ret h) dX12_thread_110
            · have h := md_ip c97 h
              exact J100 p3.2 a1 _ _ _ h hw (lv_sub hl [0, 1] rfl)
      have h := md_in c31_1 h
      by_cases c31_2 : a2 = 2
      · refine lv_tableIn (off := 80) (tgt := 111) cx.1 cx.2.1 dX12_thread_31 (by rw [c31_2]; decide) (by rw [c31_2]; decide) (by rw [c31_2]; decide) (by decide) ?_
        have h := md_ip c31_2 h
        refine lv_aload_n cx.1 cx.2.1 dX12_thread_111 rfl (lv_at hl 0 rfl) ?_
        refine md_gR (k := 106) cx hw hin12c (by decide) (by decide) (List.mem_cons_of_mem _ mm_562) dX12_thread_112 ?_
        refine lv_iload_n cx.1 cx.2.1 dX12_thread_115 rfl (lv_at hl 1 rfl) ?_
        obtain ⟨v8, e_v8, h⟩ := md_ob h
        refine md_lI (k := 106) hj cx hw (by decide) rfl rfl rfl e_v8 dX12_thread_116 ?_
        refine lv_iconst (v := 1) cx.1 cx.2.1 dX12_thread_117 (by decide) ?_
        refine lv_icmp_ne (tgt := 130) cx.1 cx.2.1 dX12_thread_118 (by decide) (fun c118 => ?_) (fun c118 => ?_)
        · have h := md_in c118 h
          refine lv_iconst (v := (-1)) cx.1 cx.2.1 dX12_thread_130 (by decide) ?_
          exact hp_iret cx hw (md_ret h) dX12_thread_131
        · have h := md_ip c118 h
          refine lv_aload_n cx.1 cx.2.1 dX12_thread_121 rfl (lv_at hl 0 rfl) ?_
          refine md_gR (k := 109) cx hw hin12c (by decide) (by decide) (List.mem_cons_of_mem _ mm_564) dX12_thread_122 ?_
          refine lv_iload_n cx.1 cx.2.1 dX12_thread_125 rfl (lv_at hl 1 rfl) ?_
          obtain ⟨v9, e_v9, h⟩ := md_ob h
          refine md_lI (k := 109) hj cx hw (by decide) rfl rfl rfl e_v9 dX12_thread_126 ?_
          refine lv_goto (tgt := 131) cx.1 cx.2.1 dX12_thread_127 (by decide) ?_
          exact hp_iret cx hw (md_ret h) dX12_thread_131
      have h := md_in c31_2 h
      by_cases c31_3 : a2 = 3
      · refine lv_tableIn (off := 101) (tgt := 132) cx.1 cx.2.1 dX12_thread_31 (by rw [c31_3]; decide) (by rw [c31_3]; decide) (by rw [c31_3]; decide) (by decide) ?_
        have h := md_ip c31_3 h
        refine lv_aload_n cx.1 cx.2.1 dX12_thread_132 rfl (lv_at hl 0 rfl) ?_
        refine md_gR (k := 108) cx hw hin12c (by decide) (by decide) (List.mem_cons_of_mem _ mm_587) dX12_thread_133 ?_
        refine lv_iload_n cx.1 cx.2.1 dX12_thread_136 rfl (lv_at hl 1 rfl) ?_
        obtain ⟨v10, e_v10, h⟩ := md_ob h
        refine md_lI (k := 108) hj cx hw (by decide) rfl rfl rfl e_v10 dX12_thread_137 ?_
        exact hp_iret cx hw (md_ret h) dX12_thread_138
      have h := md_in c31_3 h
      by_cases c31_4 : a2 = 4
      · refine lv_tableIn (off := 108) (tgt := 139) cx.1 cx.2.1 dX12_thread_31 (by rw [c31_4]; decide) (by rw [c31_4]; decide) (by rw [c31_4]; decide) (by decide) ?_
        have h := md_ip c31_4 h
        refine lv_aload_n cx.1 cx.2.1 dX12_thread_139 rfl (lv_at hl 0 rfl) ?_
        refine md_gR (k := 107) cx hw hin12c (by decide) (by decide) (List.mem_cons_of_mem _ mm_603) dX12_thread_140 ?_
        refine lv_iload_n cx.1 cx.2.1 dX12_thread_143 rfl (lv_at hl 1 rfl) ?_
        obtain ⟨v11, e_v11, h⟩ := md_ob h
        refine md_lI (k := 107) hj cx hw (by decide) rfl rfl rfl e_v11 dX12_thread_144 ?_
        refine lv_iconst (v := (-1)) cx.1 cx.2.1 dX12_thread_145 (by decide) ?_
        refine lv_icmp_eq (tgt := 163) cx.1 cx.2.1 dX12_thread_146 (by decide) (fun c146 => ?_) (fun c146 => ?_)
        · have h := md_ip c146 h
          exact J163 p3.2 _ _ _ h hw (lv_sub hl [] rfl)
        · have h := md_in c146 h
          refine lv_aload_n cx.1 cx.2.1 dX12_thread_149 rfl (lv_at hl 0 rfl) ?_
          refine md_gR (k := 106) cx hw hin12c (by decide) (by decide) (List.mem_cons_of_mem _ mm_562) dX12_thread_150 ?_
          refine lv_aload_n cx.1 cx.2.1 dX12_thread_153 rfl (lv_at hl 0 rfl) ?_
          refine md_gR (k := 107) cx hw hin12c (by decide) (by decide) (List.mem_cons_of_mem _ mm_603) dX12_thread_154 ?_
          refine lv_iload_n cx.1 cx.2.1 dX12_thread_157 rfl (lv_at hl 1 rfl) ?_
          obtain ⟨v12, e_v12, h⟩ := md_ob h
          refine md_lI (k := 107) hj cx hw (by decide) rfl rfl rfl e_v12 dX12_thread_158 ?_
          obtain ⟨v13, e_v13, h⟩ := md_ob h
          refine md_lI (k := 106) hj cx hw (by decide) rfl rfl rfl e_v13 dX12_thread_159 ?_
          refine lv_if_eq (tgt := 167) cx.1 cx.2.1 dX12_thread_160 (by decide) (fun c160 => ?_) (fun c160 => ?_)
          · have h := md_ip c160 h
            refine lv_aload_n cx.1 cx.2.1 dX12_thread_167 rfl (lv_at hl 0 rfl) ?_
            refine md_gR (k := 107) cx hw hin12c (by decide) (by decide) (List.mem_cons_of_mem _ mm_603) dX12_thread_168 ?_
            refine lv_iload_n cx.1 cx.2.1 dX12_thread_171 rfl (lv_at hl 1 rfl) ?_
            obtain ⟨v14, e_v14, h⟩ := md_ob h
            refine md_lI (k := 107) hj cx hw (by decide) rfl rfl rfl e_v14 dX12_thread_172 ?_
            exact hp_iret cx hw (md_ret h) dX12_thread_173
          · have h := md_in c160 h
            exact J163 p3.2 _ _ _ h hw (lv_sub hl [] rfl)
      have h := md_in c31_4 h
      have nc31_0 := md_nei c31_0
      have nc31_1 := md_nei c31_1
      have nc31_2 := md_nei c31_2
      have nc31_3 := md_nei c31_3
      have nc31_4 := md_nei c31_4
      refine lv_tableOut (tgt := 174) cx.1 cx.2.1 dX12_thread_31 (by have := nc31_0; rw [show ((0 : Int32)).toInt = 0 from by decide] at this; have := nc31_1; rw [show ((1 : Int32)).toInt = 1 from by decide] at this; have := nc31_2; rw [show ((2 : Int32)).toInt = 2 from by decide] at this; have := nc31_3; rw [show ((3 : Int32)).toInt = 3 from by decide] at this; have := nc31_4; rw [show ((4 : Int32)).toInt = 4 from by decide] at this;  omega) (by decide) ?_
      refine lv_iconst (v := (-1)) cx.1 cx.2.1 dX12_thread_174 (by decide) ?_
      exact hp_iret cx hw (md_ret h) dX12_thread_175
    · have h := md_ip c25 h
      refine lv_iconst (v := (-1)) cx.1 cx.2.1 dX12_thread_28 (by decide) ?_
      exact hp_iret cx hw (md_ret h) dX12_thread_29
set_option maxHeartbeats 4000000 in
set_option maxRecDepth 100000 in
theorem km_X12_context (l : Launch) (D : va_G) (cA : Nat → ClassId) (E : hp_N) (sz : Nat) (ad : Nat → Nat) (hj : md_inj ad) (hE : md_E E) (n : Nat) (σ0 : md_S) (a1 : Int32) (a2 : Int32) (p : (Int32 × md_S)) (h : f_X12_context n σ0 a1 a2 = some p) : Met l yX12_context (Cond.code yX12_context cX12_context 4 (some .int) :: v_MOD) ({ frames := 1, cells := 0, slots := 0, locals := 25 }) (hp_Pc D vwCl (hp_Tl cA) E sz (md_pic cA ad σ0) [.ref (ad 137), .int a1, .int a2]) (hp_Qi D vwCl (hp_Tl cA) sz (md_pic cA ad σ0) (fun r u => r = p.1 ∧ u = md_pic cA ad p.2)) 0 0 (hp_A (md_pic cA ad σ0) sz) := by
  refine hp_ofW (cc := cX12_context) (maxL := 4) (ret := (some .int)) (by decide) rfl (Nat.le_of_ble_eq_true rfl) ?_
  intro pp ee ss mm bb mt cd ls cx hsz hw hl
  have hl : lv_has ls 4 [(0, .ref (ad 137)), (1, .int a1), (2, .int a2)] := hl
  refine lv_aload_n cx.1 cx.2.1 dX12_context_0 rfl (lv_at hl 0 rfl) ?_
  refine lv_iconst (v := 0) cx.1 cx.2.1 dX12_context_1 (by decide) ?_
  obtain ⟨σ1, e_σ1, h⟩ := md_ob h
  refine md_pI (k := 0) cx hw hin12c rfl (by decide) rfl (List.mem_cons_of_mem _ mm_0) rfl e_σ1 dX12_context_2 (fun H locs hw => ?_)
  refine lv_aload_n cx.1 cx.2.1 dX12_context_5 rfl (lv_at hl 0 rfl) ?_
  refine md_gI (k := 86) cx hw hin12c rfl (by decide) (List.mem_cons_of_mem _ mm_468) dX12_context_6 ?_
  refine lv_if_eq (tgt := 28) cx.1 cx.2.1 dX12_context_9 (by decide) (fun c9 => ?_) (fun c9 => ?_)
  · have h := md_ip c9 h
    refine lv_iconst (v := (-1)) cx.1 cx.2.1 dX12_context_28 (by decide) ?_
    exact hp_iret cx hw (md_ret h) dX12_context_29
  · have h := md_in c9 h
    refine lv_iload_n cx.1 cx.2.1 dX12_context_12 rfl (lv_at hl 1 rfl) ?_
    refine lv_i2l (v := (a1.toInt64)) cx.1 cx.2.1 dX12_context_13 rfl ?_
    refine lv_lconst (v := 0) cx.1 cx.2.1 dX12_context_14 (by decide) ?_
    refine lv_aload_n cx.1 cx.2.1 dX12_context_15 rfl (lv_at hl 0 rfl) ?_
    refine md_gI (k := 130) cx hw hin12c rfl (by decide) (List.mem_cons_of_mem _ mm_523) dX12_context_16 ?_
    refine lv_iconst (v := 2) cx.1 cx.2.1 dX12_context_19 (by decide) ?_
    refine lv_isub cx.1 cx.2.1 dX12_context_20 ?_
    refine lv_i2l (v := (((mI σ1 130) - 2).toInt64)) cx.1 cx.2.1 dX12_context_21 rfl ?_
    obtain ⟨p2, e_p2, h⟩ := md_ob h
    refine hp_callSi (As := [.long (a1.toInt64), .long 0, .long (((mI σ1 130) - 2).toInt64)]) (rest := []) cx hw (km_X12_in l D cA E _ ad hj hE n σ1 ((a1.toInt64)) (0 : Int64) ((((mI σ1 130) - 2).toInt64)) p2 e_p2) (cwS 3 cx.2.2.2.2.2.1 (md_giS mm_3 mm_4 mm_5 mm_6) rfl rfl rfl hd_X12_in ⟨Nat.le_of_ble_eq_true rfl, Nat.le_of_ble_eq_true rfl⟩) rfl hl.1 rfl (Nat.le_of_ble_eq_true rfl) dX12_context_22 ⟨Nat.le_refl _, Nat.le_refl _⟩ (fun r u H locs hp hw => ?_)
    obtain ⟨rfl, rfl⟩ := hp
    refine lv_if_ne (tgt := 30) cx.1 cx.2.1 dX12_context_25 (by decide) (fun c25 => ?_) (fun c25 => ?_)
    · have h := md_in c25 h
      refine lv_iload_n cx.1 cx.2.1 dX12_context_30 rfl (lv_at hl 1 rfl) ?_
      refine lv_iconst (v := 1) cx.1 cx.2.1 dX12_context_31 (by decide) ?_
      refine lv_iadd cx.1 cx.2.1 dX12_context_32 ?_
      refine lv_istore_n (lv' := [(3, .int (a1 + 1)), (0, .ref (ad 137)), (1, .int a1), (2, .int a2)]) cx.1 cx.2.1 dX12_context_33 rfl hl (by decide) rfl (fun ls hl => ?_)
      refine lv_iload_n cx.1 cx.2.1 dX12_context_34 rfl (lv_at hl 3 rfl) ?_
      refine lv_iconst (v := (-1)) cx.1 cx.2.1 dX12_context_35 (by decide) ?_
      refine lv_icmp_ne (tgt := 48) cx.1 cx.2.1 dX12_context_36 (by decide) (fun c36 => ?_) (fun c36 => ?_)
      · have h := md_in c36 h
        refine lv_iload_n cx.1 cx.2.1 dX12_context_48 rfl (lv_at hl 3 rfl) ?_
        refine lv_i2l (v := (a2.toInt64)) cx.1 cx.2.1 dX12_context_49 rfl ?_
        refine lv_lconst (v := 0) cx.1 cx.2.1 dX12_context_50 (by decide) ?_
        refine lv_aload_n cx.1 cx.2.1 dX12_context_51 rfl (lv_at hl 1 rfl) ?_
        refine md_gR (k := 131) cx hw hin12c (by decide) (by decide) (List.mem_cons_of_mem _ mm_524) dX12_context_52 ?_
        refine lv_iload_n cx.1 cx.2.1 dX12_context_55 rfl (lv_at hl 0 rfl) ?_
        obtain ⟨v3, e_v3, h⟩ := md_ob h
        refine md_lI (k := 131) hj cx hw (by decide) rfl rfl rfl e_v3 dX12_context_56 ?_
        refine lv_iconst (v := 1) cx.1 cx.2.1 dX12_context_57 (by decide) ?_
        refine lv_isub cx.1 cx.2.1 dX12_context_58 ?_
        refine lv_i2l (v := ((v3 - 1).toInt64)) cx.1 cx.2.1 dX12_context_59 rfl ?_
        obtain ⟨p4, e_p4, h⟩ := md_ob h
        refine hp_callSi (As := [.long (a2.toInt64), .long 0, .long ((v3 - 1).toInt64)]) (rest := []) cx hw (km_X12_in l D cA E _ ad hj hE n p2.2 ((a2.toInt64)) (0 : Int64) (((v3 - 1).toInt64)) p4 e_p4) (cwS 3 cx.2.2.2.2.2.1 (md_giS mm_3 mm_4 mm_5 mm_6) rfl rfl rfl hd_X12_in ⟨Nat.le_of_ble_eq_true rfl, Nat.le_of_ble_eq_true rfl⟩) rfl hl.1 rfl (Nat.le_of_ble_eq_true rfl) dX12_context_60 ⟨Nat.le_refl _, Nat.le_refl _⟩ (fun r u H locs hp hw => ?_)
        obtain ⟨rfl, rfl⟩ := hp
        refine lv_if_eq (tgt := 80) cx.1 cx.2.1 dX12_context_63 (by decide) (fun c63 => ?_) (fun c63 => ?_)
        · have h := md_ip c63 h
          refine lv_iconst (v := (-1)) cx.1 cx.2.1 dX12_context_80 (by decide) ?_
          exact hp_iret cx hw (md_ret h) dX12_context_81
        · have h := md_in c63 h
          refine lv_aload_n cx.1 cx.2.1 dX12_context_66 rfl (lv_at hl 1 rfl) ?_
          refine md_gR (k := 132) cx hw hin12c (by decide) (by decide) (List.mem_cons_of_mem _ mm_525) dX12_context_67 ?_
          refine lv_bipush (v := 16) cx.1 cx.2.1 dX12_context_70 (by decide) ?_
          refine lv_iload_n cx.1 cx.2.1 dX12_context_72 rfl (lv_at hl 0 rfl) ?_
          refine lv_imul cx.1 cx.2.1 dX12_context_73 ?_
          refine lv_iload_n cx.1 cx.2.1 dX12_context_74 rfl (lv_at hl 3 rfl) ?_
          refine lv_iadd cx.1 cx.2.1 dX12_context_75 ?_
          obtain ⟨v5, e_v5, h⟩ := md_ob h
          refine md_lI (k := 132) hj cx hw (by decide) rfl rfl rfl e_v5 dX12_context_76 ?_
          refine lv_goto (tgt := 81) cx.1 cx.2.1 dX12_context_77 (by decide) ?_
          exact hp_iret cx hw (md_ret h) dX12_context_81
      · have h := md_ip c36 h
        refine lv_aload_n cx.1 cx.2.1 dX12_context_39 rfl (lv_at hl 1 rfl) ?_
        refine md_gR (k := 131) cx hw hin12c (by decide) (by decide) (List.mem_cons_of_mem _ mm_524) dX12_context_40 ?_
        refine lv_iload_n cx.1 cx.2.1 dX12_context_43 rfl (lv_at hl 0 rfl) ?_
        obtain ⟨v6, e_v6, h⟩ := md_ob h
        refine md_lI (k := 131) hj cx hw (by decide) rfl rfl rfl e_v6 dX12_context_44 ?_
        refine lv_goto (tgt := 81) cx.1 cx.2.1 dX12_context_45 (by decide) ?_
        exact hp_iret cx hw (md_ret h) dX12_context_81
    · have h := md_ip c25 h
      refine lv_iconst (v := (-1)) cx.1 cx.2.1 dX12_context_28 (by decide) ?_
      exact hp_iret cx hw (md_ret h) dX12_context_29
