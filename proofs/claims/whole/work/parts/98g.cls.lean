set_option maxHeartbeats 4000000 in
set_option maxRecDepth 100000 in
theorem kc_X2_groupBegun (l : Launch) (D : va_G) (cA : Nat → ClassId) (E : hp_N) (sz : Nat) (ad : Nat → Nat → Nat) (ca0 : Nat → Nat) (hj : cd_inj ad ca0) (oq sgq sgv : Nat) (hE : cd_E E oq sgq sgv) (n : Nat) (σ0 : cd_S) (a1 : Int32) (a2 : Int32) (a3 : Int32) (p : (Int32 × cd_S)) (h : f_X2_groupBegun n σ0 a1 a2 a3 = some p) : Met l yX2_groupBegun (Cond.code yX2_groupBegun cX2_groupBegun 4 (some .int) :: v_CLS) ({ frames := 1, cells := 0, slots := 0, locals := 26 }) (hp_Pc D vwCl (hp_Tl cA) E sz (cd_pic cA ad ca0 σ0) [.ref (ad 2 0), .int a1, .int a2, .int a3]) (hp_Qi D vwCl (hp_Tl cA) sz (cd_pic cA ad ca0 σ0) (fun r u => r = p.1 ∧ ∃ ca1, cd_inj ad ca1 ∧ u = cd_pic cA ad ca1 p.2)) 0 0 (hp_A (cd_pic cA ad ca0 σ0) sz) := by
  refine hp_ofW (cc := cX2_groupBegun) (maxL := 4) (ret := (some .int)) (by decide) rfl (Nat.le_of_ble_eq_true rfl) ?_
  intro pp ee ss mm bb mt cd ls cx hsz hw hl
  have hl : lv_has ls 4 [(0, .ref (ad 2 0)), (1, .int a1), (2, .int a2), (3, .int a3)] := hl
  refine lv_iload_n cx.1 cx.2.1 dX2_groupBegun_0 rfl (lv_at hl 1 rfl) ?_
  by_cases c1_7 : a1 = 7
  · refine lv_lookup (off := 35) (tgt := 36) cx.1 cx.2.1 dX2_groupBegun_1 (by decide) (by rw [c1_7]; decide) (by decide) ?_
    have h := md_ip c1_7 h
    refine lv_aload_n cx.1 cx.2.1 dX2_groupBegun_36 rfl (lv_at hl 0 rfl) ?_
    refine lv_iconst (v := 0) cx.1 cx.2.1 dX2_groupBegun_37 (by decide) ?_
    refine lv_aload_n cx.1 cx.2.1 dX2_groupBegun_38 rfl (lv_at hl 0 rfl) ?_
    refine lv_iload_n cx.1 cx.2.1 dX2_groupBegun_39 rfl (lv_at hl 2 rfl) ?_
    obtain ⟨p1, e_p1, h⟩ := md_ob h
    refine hp_callVl (As := [.int a2]) (rest := [.int 0, .ref (ad 2 0)]) cx hw (kc_X2_nameAt l D cA E _ ad _ hj oq sgq sgv hE n σ0 a2 p1 e_p1) (cwV 1 cx.2.2.2.2.2.1 (cd_giV cm_562 cm_385 cm_386 cm_167 cm_387) rfl rfl rfl hdc_X2_nameAt ⟨Nat.le_of_ble_eq_true rfl, Nat.le_of_ble_eq_true rfl⟩) (cd_atO hj (by decide) (by decide)) rfl rfl hl.1 rfl (Nat.le_of_ble_eq_true rfl) dX2_groupBegun_40 ⟨Nat.le_refl _, Nat.le_refl _⟩ (fun r u H locs hp hw => ?_)
    obtain ⟨rfl, ca, hj, rfl⟩ := hp
    refine lv_iload_n cx.1 cx.2.1 dX2_groupBegun_43 rfl (lv_at hl 3 rfl) ?_
    obtain ⟨p2, e_p2, h⟩ := md_ob h
    refine hp_callVi (As := [.int 0, .long p1.1, .int a3]) (rest := []) cx hw (kc_X2_groupOf l D cA E _ ad _ hj oq sgq sgv hE n p1.2 (0 : Int32) (p1.1) a3 p2 e_p2) (cwV 3 cx.2.2.2.2.2.1 (cd_giV cm_557 cm_558 cm_559 cm_167 cm_560) rfl rfl rfl hdc_X2_groupOf ⟨Nat.le_of_ble_eq_true rfl, Nat.le_of_ble_eq_true rfl⟩) (cd_atO hj (by decide) (by decide)) rfl rfl hl.1 rfl (Nat.le_of_ble_eq_true rfl) dX2_groupBegun_44 ⟨Nat.le_refl _, Nat.le_refl _⟩ (fun r u H locs hp hw => ?_)
    obtain ⟨rfl, ca, hj, rfl⟩ := hp
    exact hp_iret cx hw (cd_ret hj h) dX2_groupBegun_47
  have h := md_in c1_7 h
  by_cases c1_8 : a1 = 8
  · refine lv_lookup (off := 47) (tgt := 48) cx.1 cx.2.1 dX2_groupBegun_1 (by decide) (by rw [c1_8]; decide) (by decide) ?_
    have h := md_ip c1_8 h
    refine lv_aload_n cx.1 cx.2.1 dX2_groupBegun_48 rfl (lv_at hl 0 rfl) ?_
    refine lv_iconst (v := 1) cx.1 cx.2.1 dX2_groupBegun_49 (by decide) ?_
    refine lv_lconst (v := 0) cx.1 cx.2.1 dX2_groupBegun_50 (by decide) ?_
    refine lv_iload_n cx.1 cx.2.1 dX2_groupBegun_51 rfl (lv_at hl 2 rfl) ?_
    obtain ⟨p3, e_p3, h⟩ := md_ob h
    refine hp_callVi (As := [.int 1, .long 0, .int a2]) (rest := []) cx hw (kc_X2_groupOf l D cA E _ ad _ hj oq sgq sgv hE n σ0 (1 : Int32) (0 : Int64) a2 p3 e_p3) (cwV 3 cx.2.2.2.2.2.1 (cd_giV cm_557 cm_558 cm_559 cm_167 cm_560) rfl rfl rfl hdc_X2_groupOf ⟨Nat.le_of_ble_eq_true rfl, Nat.le_of_ble_eq_true rfl⟩) (cd_atO hj (by decide) (by decide)) rfl rfl hl.1 rfl (Nat.le_of_ble_eq_true rfl) dX2_groupBegun_52 ⟨Nat.le_refl _, Nat.le_refl _⟩ (fun r u H locs hp hw => ?_)
    obtain ⟨rfl, ca, hj, rfl⟩ := hp
    exact hp_iret cx hw (cd_ret hj h) dX2_groupBegun_55
  have h := md_in c1_8 h
  by_cases c1_23 : a1 = 23
  · refine lv_lookup (off := 55) (tgt := 56) cx.1 cx.2.1 dX2_groupBegun_1 (by decide) (by rw [c1_23]; decide) (by decide) ?_
    have h := md_ip c1_23 h
    refine lv_aload_n cx.1 cx.2.1 dX2_groupBegun_56 rfl (lv_at hl 0 rfl) ?_
    refine lv_iconst (v := 1) cx.1 cx.2.1 dX2_groupBegun_57 (by decide) ?_
    refine lv_lconst (v := 0) cx.1 cx.2.1 dX2_groupBegun_58 (by decide) ?_
    refine lv_iconst (v := 0) cx.1 cx.2.1 dX2_groupBegun_59 (by decide) ?_
    obtain ⟨p4, e_p4, h⟩ := md_ob h
    refine hp_callVi (As := [.int 1, .long 0, .int 0]) (rest := []) cx hw (kc_X2_groupOf l D cA E _ ad _ hj oq sgq sgv hE n σ0 (1 : Int32) (0 : Int64) (0 : Int32) p4 e_p4) (cwV 3 cx.2.2.2.2.2.1 (cd_giV cm_557 cm_558 cm_559 cm_167 cm_560) rfl rfl rfl hdc_X2_groupOf ⟨Nat.le_of_ble_eq_true rfl, Nat.le_of_ble_eq_true rfl⟩) (cd_atO hj (by decide) (by decide)) rfl rfl hl.1 rfl (Nat.le_of_ble_eq_true rfl) dX2_groupBegun_60 ⟨Nat.le_refl _, Nat.le_refl _⟩ (fun r u H locs hp hw => ?_)
    obtain ⟨rfl, ca, hj, rfl⟩ := hp
    exact hp_iret cx hw (cd_ret hj h) dX2_groupBegun_63
  have h := md_in c1_23 h
  refine lv_lookup (off := 63) (tgt := 64) cx.1 cx.2.1 dX2_groupBegun_1 (by decide) ((lv_osw c1_7 (by decide)).trans ((lv_osw c1_8 (by decide)).trans ((lv_osw c1_23 (by decide)).trans rfl))) (by decide) ?_
  refine lv_iconst (v := (-1)) cx.1 cx.2.1 dX2_groupBegun_64 (by decide) ?_
  exact hp_iret cx hw (cd_ret hj h) dX2_groupBegun_65
set_option maxHeartbeats 4000000 in
set_option maxRecDepth 100000 in
theorem kc_X2_handsContext (l : Launch) (D : va_G) (cA : Nat → ClassId) (E : hp_N) (sz : Nat) (ad : Nat → Nat → Nat) (ca0 : Nat → Nat) (hj : cd_inj ad ca0) (oq sgq sgv : Nat) (hE : cd_E E oq sgq sgv) (n : Nat) (σ0 : cd_S) (a1 : Int32) (a2 : Int32) (a3 : Int32) (p : (Int32 × cd_S)) (h : f_X2_handsContext n σ0 a1 a2 a3 = some p) : Met l yX2_handsContext (Cond.code yX2_handsContext cX2_handsContext 5 (some .boolean) :: v_CLS) ({ frames := 2, cells := 0, slots := 0, locals := 49 }) (hp_Pc D vwCl (hp_Tl cA) E sz (cd_pic cA ad ca0 σ0) [.ref (ad 2 0), .int a1, .int a2, .int a3]) (hp_Qi D vwCl (hp_Tl cA) sz (cd_pic cA ad ca0 σ0) (fun r u => r = p.1 ∧ ∃ ca1, cd_inj ad ca1 ∧ u = cd_pic cA ad ca1 p.2)) 0 0 (hp_A (cd_pic cA ad ca0 σ0) sz) := by
  refine hp_ofW (cc := cX2_handsContext) (maxL := 5) (ret := (some .boolean)) (by decide) rfl (Nat.le_of_ble_eq_true rfl) ?_
  intro pp ee ss mm bb mt cd ls cx hsz hw hl
  have hl : lv_has ls 5 [(0, .ref (ad 2 0)), (1, .int a1), (2, .int a2), (3, .int a3)] := hl
  refine lv_iload_n cx.1 cx.2.1 dX2_handsContext_0 rfl (lv_at hl 1 rfl) ?_
  refine lv_bipush (v := 25) cx.1 cx.2.1 dX2_handsContext_1 (by decide) ?_
  refine lv_icmp_eq (tgt := 18) cx.1 cx.2.1 dX2_handsContext_3 (by decide) (fun c3 => ?_) (fun c3 => ?_)
  · have h := md_ip c3 h
    refine lv_iconst (v := 1) cx.1 cx.2.1 dX2_handsContext_18 (by decide) ?_
    exact hp_zret cx hw (cd_ret hj h) (by decide) dX2_handsContext_19
  · have h := md_in c3 h
    refine lv_iload_n cx.1 cx.2.1 dX2_handsContext_6 rfl (lv_at hl 1 rfl) ?_
    refine lv_bipush (v := 26) cx.1 cx.2.1 dX2_handsContext_7 (by decide) ?_
    refine lv_icmp_eq (tgt := 18) cx.1 cx.2.1 dX2_handsContext_9 (by decide) (fun c9 => ?_) (fun c9 => ?_)
    · have h := md_ip c9 h
      refine lv_iconst (v := 1) cx.1 cx.2.1 dX2_handsContext_18 (by decide) ?_
      exact hp_zret cx hw (cd_ret hj h) (by decide) dX2_handsContext_19
    · have h := md_in c9 h
      refine lv_iload_n cx.1 cx.2.1 dX2_handsContext_12 rfl (lv_at hl 1 rfl) ?_
      refine lv_bipush (v := 27) cx.1 cx.2.1 dX2_handsContext_13 (by decide) ?_
      refine lv_icmp_ne (tgt := 20) cx.1 cx.2.1 dX2_handsContext_15 (by decide) (fun c15 => ?_) (fun c15 => ?_)
      · have h := md_in c15 h
        refine lv_iload_n cx.1 cx.2.1 dX2_handsContext_20 rfl (lv_at hl 1 rfl) ?_
        refine lv_bipush (v := 10) cx.1 cx.2.1 dX2_handsContext_21 (by decide) ?_
        refine lv_icmp_ne (tgt := 55) cx.1 cx.2.1 dX2_handsContext_23 (by decide) (fun c23 => ?_) (fun c23 => ?_)
        · have h := md_in c23 h
          refine lv_aload_n cx.1 cx.2.1 dX2_handsContext_55 rfl (lv_at hl 0 rfl) ?_
          refine lv_iload_n cx.1 cx.2.1 dX2_handsContext_56 rfl (lv_at hl 1 rfl) ?_
          refine lv_iload_n cx.1 cx.2.1 dX2_handsContext_57 rfl (lv_at hl 2 rfl) ?_
          refine lv_iload_n cx.1 cx.2.1 dX2_handsContext_58 rfl (lv_at hl 3 rfl) ?_
          obtain ⟨p1, e_p1, h⟩ := md_ob h
          refine hp_callVi (As := [.int a1, .int a2, .int a3]) (rest := []) cx hw (kc_X2_groupBegun l D cA E _ ad _ hj oq sgq sgv hE n σ0 a1 a2 a3 p1 e_p1) (cwV 3 cx.2.2.2.2.2.1 (cd_giV cm_563 cm_564 cm_565 cm_167 cm_566) rfl rfl rfl hdc_X2_groupBegun ⟨Nat.le_of_ble_eq_true rfl, Nat.le_of_ble_eq_true rfl⟩) (cd_atO hj (by decide) (by decide)) rfl rfl hl.1 rfl (Nat.le_of_ble_eq_true rfl) dX2_handsContext_59 ⟨Nat.le_refl _, Nat.le_refl _⟩ (fun r u H locs hp hw => ?_)
          obtain ⟨rfl, ca, hj, rfl⟩ := hp
          refine lv_istore (lv' := [(4, .int p1.1), (0, .ref (ad 2 0)), (1, .int a1), (2, .int a2), (3, .int a3)]) cx.1 cx.2.1 dX2_handsContext_62 hl (by decide) rfl (fun ls hl => ?_)
          refine lv_iload cx.1 cx.2.1 dX2_handsContext_64 (lv_at hl 0 rfl) ?_
          refine lv_iconst (v := (-1)) cx.1 cx.2.1 dX2_handsContext_66 (by decide) ?_
          refine lv_icmp_eq (tgt := 86) cx.1 cx.2.1 dX2_handsContext_67 (by decide) (fun c67 => ?_) (fun c67 => ?_)
          · have h := md_ip c67 h
            refine lv_iconst (v := 0) cx.1 cx.2.1 dX2_handsContext_86 (by decide) ?_
            exact hp_zret cx hw (cd_ret hj h) (by decide) dX2_handsContext_87
          · have h := md_in c67 h
            refine lv_aload_n cx.1 cx.2.1 dX2_handsContext_70 rfl (lv_at hl 1 rfl) ?_
            refine lv_iload cx.1 cx.2.1 dX2_handsContext_71 (lv_at hl 0 rfl) ?_
            obtain ⟨p2, e_p2, h⟩ := md_ob h
            refine hp_callVr (As := [.int p1.1]) (rest := []) cx hw (kc_X2_unitAt l D cA E _ ad _ hj oq sgq sgv hE n p1.2 (p1.1) p2 e_p2) (cwV 1 cx.2.2.2.2.2.1 (cd_giV cm_394 cm_285 cm_286 cm_167 cm_287) rfl rfl rfl hdc_X2_unitAt ⟨Nat.le_of_ble_eq_true rfl, Nat.le_of_ble_eq_true rfl⟩) (cd_atO hj (by decide) (by decide)) rfl rfl hl.1 rfl (Nat.le_of_ble_eq_true rfl) dX2_handsContext_73 ⟨Nat.le_refl _, Nat.le_refl _⟩ (fun r u H locs hp hw => ?_)
            obtain ⟨⟨hb_p2, rfl⟩, ca, hj, rfl⟩ := hp
            refine cd_gI (o := 9) (k := 13) (f := 301) hj cx hw hic9 rfl ⟨by decide, rfl, by decide, rfl⟩ rfl (show _ < 60 by omega) (List.mem_cons_of_mem _ cm_567) dX2_handsContext_76 ?_
            refine lv_if_eq (tgt := 86) cx.1 cx.2.1 dX2_handsContext_79 (by decide) (fun c79 => ?_) (fun c79 => ?_)
            · have h := md_ip c79 h
              refine lv_iconst (v := 0) cx.1 cx.2.1 dX2_handsContext_86 (by decide) ?_
              exact hp_zret cx hw (cd_ret hj h) (by decide) dX2_handsContext_87
            · have h := md_in c79 h
              refine lv_iconst (v := 1) cx.1 cx.2.1 dX2_handsContext_82 (by decide) ?_
              refine lv_goto (tgt := 87) cx.1 cx.2.1 dX2_handsContext_83 (by decide) ?_
              exact hp_zret cx hw (cd_ret hj h) (by decide) dX2_handsContext_87
        · have h := md_ip c23 h
          refine lv_aload_n cx.1 cx.2.1 dX2_handsContext_26 rfl (lv_at hl 0 rfl) ?_
          refine lv_iload_n cx.1 cx.2.1 dX2_handsContext_27 rfl (lv_at hl 2 rfl) ?_
          obtain ⟨p3, e_p3, h⟩ := md_ob h
          refine hp_callVr (As := [.int a2]) (rest := []) cx hw (kc_X2_unitAt l D cA E _ ad _ hj oq sgq sgv hE n σ0 a2 p3 e_p3) (cwV 1 cx.2.2.2.2.2.1 (cd_giV cm_394 cm_285 cm_286 cm_167 cm_287) rfl rfl rfl hdc_X2_unitAt ⟨Nat.le_of_ble_eq_true rfl, Nat.le_of_ble_eq_true rfl⟩) (cd_atO hj (by decide) (by decide)) rfl rfl hl.1 rfl (Nat.le_of_ble_eq_true rfl) dX2_handsContext_28 ⟨Nat.le_refl _, Nat.le_refl _⟩ (fun r u H locs hp hw => ?_)
          obtain ⟨⟨hb_p3, rfl⟩, ca, hj, rfl⟩ := hp
          refine cd_gI (o := 9) (k := 1) (f := 289) hj cx hw hic9 rfl ⟨by decide, rfl, by decide, rfl⟩ rfl (show _ < 60 by omega) (List.mem_cons_of_mem _ cm_556) dX2_handsContext_31 ?_
          refine lv_iconst (v := 3) cx.1 cx.2.1 dX2_handsContext_34 (by decide) ?_
          refine lv_icmp_ne (tgt := 53) cx.1 cx.2.1 dX2_handsContext_35 (by decide) (fun c35 => ?_) (fun c35 => ?_)
          · have h := md_in c35 h
            refine lv_iconst (v := 0) cx.1 cx.2.1 dX2_handsContext_53 (by decide) ?_
            exact hp_zret cx hw (cd_ret hj h) (by decide) dX2_handsContext_54
          · have h := md_ip c35 h
            refine lv_aload_n cx.1 cx.2.1 dX2_handsContext_38 rfl (lv_at hl 0 rfl) ?_
            refine lv_iload_n cx.1 cx.2.1 dX2_handsContext_39 rfl (lv_at hl 2 rfl) ?_
            obtain ⟨p4, e_p4, h⟩ := md_ob h
            refine hp_callVr (As := [.int a2]) (rest := []) cx hw (kc_X2_unitAt l D cA E _ ad _ hj oq sgq sgv hE n p3.2 a2 p4 e_p4) (cwV 1 cx.2.2.2.2.2.1 (cd_giV cm_394 cm_285 cm_286 cm_167 cm_287) rfl rfl rfl hdc_X2_unitAt ⟨Nat.le_of_ble_eq_true rfl, Nat.le_of_ble_eq_true rfl⟩) (cd_atO hj (by decide) (by decide)) rfl rfl hl.1 rfl (Nat.le_of_ble_eq_true rfl) dX2_handsContext_40 ⟨Nat.le_refl _, Nat.le_refl _⟩ (fun r u H locs hp hw => ?_)
            obtain ⟨⟨hb_p4, rfl⟩, ca, hj, rfl⟩ := hp
            refine cd_gI (o := 9) (k := 13) (f := 301) hj cx hw hic9 rfl ⟨by decide, rfl, by decide, rfl⟩ rfl (show _ < 60 by omega) (List.mem_cons_of_mem _ cm_567) dX2_handsContext_43 ?_
            refine lv_if_eq (tgt := 53) cx.1 cx.2.1 dX2_handsContext_46 (by decide) (fun c46 => ?_) (fun c46 => ?_)
            · have h := md_ip c46 h
              refine lv_iconst (v := 0) cx.1 cx.2.1 dX2_handsContext_53 (by decide) ?_
              exact hp_zret cx hw (cd_ret hj h) (by decide) dX2_handsContext_54
            · have h := md_in c46 h
              refine lv_iconst (v := 1) cx.1 cx.2.1 dX2_handsContext_49 (by decide) ?_
              refine lv_goto (tgt := 54) cx.1 cx.2.1 dX2_handsContext_50 (by decide) ?_
              exact hp_zret cx hw (cd_ret hj h) (by decide) dX2_handsContext_54
      · have h := md_ip c15 h
        refine lv_iconst (v := 1) cx.1 cx.2.1 dX2_handsContext_18 (by decide) ?_
        exact hp_zret cx hw (cd_ret hj h) (by decide) dX2_handsContext_19
set_option maxHeartbeats 4000000 in
set_option maxRecDepth 100000 in
theorem kc_X3_settleAskings (l : Launch) (D : va_G) (cA : Nat → ClassId) (E : hp_N) (sz : Nat) (ad : Nat → Nat → Nat) (ca0 : Nat → Nat) (hj : cd_inj ad ca0) (oq sgq sgv : Nat) (hE : cd_E E oq sgq sgv) (n : Nat) (σ0 : cd_S) (p : (Int32 × cd_S)) (h : f_X3_settleAskings n σ0 = some p) : Met l yX3_settleAskings (Cond.code yX3_settleAskings cX3_settleAskings 2 none :: v_CLS) ({ frames := 3, cells := 0, slots := 0, locals := 73 }) (hp_Pc D vwCl (hp_Tl cA) E sz (cd_pic cA ad ca0 σ0) [.ref (ad 3 0)]) (hp_Qv D vwCl (hp_Tl cA) sz (cd_pic cA ad ca0 σ0) (fun u => ∃ ca1, cd_inj ad ca1 ∧ u = cd_pic cA ad ca1 p.2)) 0 0 (hp_A (cd_pic cA ad ca0 σ0) sz) := by
  refine hp_ofW (cc := cX3_settleAskings) (maxL := 2) (ret := none) (by decide) rfl (Nat.le_of_ble_eq_true rfl) ?_
  intro pp ee ss mm bb mt cd ls cx hsz hw hl
  have hl : lv_has ls 2 [(0, .ref (ad 3 0))] := hl
  refine lv_iconst (v := 0) cx.1 cx.2.1 dX3_settleAskings_0 (by decide) ?_
  refine lv_istore_n (lv' := [(1, .int 0), (0, .ref (ad 3 0))]) cx.1 cx.2.1 dX3_settleAskings_1 rfl hl (by decide) rfl (fun ls hl => ?_)
  have L2 : ∀ (j : Nat) (ca : Nat → Nat) (hj : cd_inj ad ca) (σ : cd_S) (l1 : Int32) (q : (cd_S × Int32)) (H : Heap) (locs : List Loc) (ls : Array Slot), f_X3_settleAskings_L2 n j σ l1 = some q → hp_w D vwCl (hp_Tl cA) E (hp_A (cd_pic cA ad ca0 σ0) sz) ss H locs (cd_pic cA ad ca σ) → lv_has ls 2 [(0, .ref (ad 3 0)), (1, .int l1)] → (∀ (ca : Nat → Nat) (hj : cd_inj ad ca) (H : Heap) (locs : List Loc) (ls : Array Slot), hp_w D vwCl (hp_Tl cA) E (hp_A (cd_pic cA ad ca0 σ0) sz) ss H locs (cd_pic cA ad ca q.1) → lv_has ls 2 [] → W pp l ee ({ frames := 3, cells := 0, slots := 0, locals := 73 }) ss mm [.ref (ad 3 0)].toArray bb mt cd H locs 0 0 (MQ bb (hp_Qv D vwCl (hp_Tl cA) sz (cd_pic cA ad ca0 σ0) (fun u => ∃ ca1, cd_inj ad ca1 ∧ u = cd_pic cA ad ca1 p.2)) [.ref (ad 3 0)].toArray ss 0 0 (hp_A (cd_pic cA ad ca0 σ0) sz)) (F0 mm 41 ls [])) → W pp l ee ({ frames := 3, cells := 0, slots := 0, locals := 73 }) ss mm [.ref (ad 3 0)].toArray bb mt cd H locs 0 0 (MQ bb (hp_Qv D vwCl (hp_Tl cA) sz (cd_pic cA ad ca0 σ0) (fun u => ∃ ca1, cd_inj ad ca1 ∧ u = cd_pic cA ad ca1 p.2)) [.ref (ad 3 0)].toArray ss 0 0 (hp_A (cd_pic cA ad ca0 σ0) sz)) (F0 mm 2 ls []) := by
    intro j
    induction j with
    | zero => intro ca hj σ l1 q H locs ls h; exact nomatch h
    | succ j ih =>
      intro ca hj σ l1 q H locs ls h hw hl K
      unfold f_X3_settleAskings_L2 at h
      have J35 : ∀ (ca : Nat → Nat) (hj : cd_inj ad ca) (σ : cd_S) (l1 : Int32) (H : Heap) (locs : List Loc) (ls : Array Slot), f_X3_settleAskings_J35 n (f_X3_settleAskings_L2 n j) σ l1 = some q → hp_w D vwCl (hp_Tl cA) E (hp_A (cd_pic cA ad ca0 σ0) sz) ss H locs (cd_pic cA ad ca σ) → lv_has ls 2 [(0, .ref (ad 3 0)), (1, .int l1)] → W pp l ee ({ frames := 3, cells := 0, slots := 0, locals := 73 }) ss mm [.ref (ad 3 0)].toArray bb mt cd H locs 0 0 (MQ bb (hp_Qv D vwCl (hp_Tl cA) sz (cd_pic cA ad ca0 σ0) (fun u => ∃ ca1, cd_inj ad ca1 ∧ u = cd_pic cA ad ca1 p.2)) [.ref (ad 3 0)].toArray ss 0 0 (hp_A (cd_pic cA ad ca0 σ0) sz)) (F0 mm 35 ls []) := by
        intro ca hj σ l1 H locs ls h hw hl
        refine lv_iinc (v := (l1 + 1)) (lv' := [(1, .int (l1 + 1)), (0, .ref (ad 3 0))]) cx.1 cx.2.1 dX3_settleAskings_35 hl (k := 1) rfl rfl (by decide) rfl (fun ls hl => ?_)
        refine lv_goto (tgt := 2) cx.1 cx.2.1 dX3_settleAskings_38 (by decide) ?_
        exact ih _ hj σ ((l1 + 1)) q _ _ _ h hw (lv_sub hl [1, 0] rfl) K
      refine lv_iload_n cx.1 cx.2.1 dX3_settleAskings_2 rfl (lv_at hl 1 rfl) ?_
      refine lv_aload_n cx.1 cx.2.1 dX3_settleAskings_3 rfl (lv_at hl 0 rfl) ?_
      refine cd_gI (o := 3) (k := 13) (f := 109) hj cx hw hic3 rfl ⟨by decide, rfl, by decide, rfl⟩ rfl (by decide) (List.mem_cons_of_mem _ cm_310) dX3_settleAskings_4 ?_
      refine lv_icmp_ge (tgt := 41) cx.1 cx.2.1 dX3_settleAskings_7 (by decide) (fun c7 => ?_) (fun c7 => ?_)
      · have h := md_ip c7 h
        obtain rfl := Option.some.inj h
        exact K _ hj _ _ _ hw (lv_sub hl [] rfl)
      · have h := md_in c7 h
        refine lv_aload_n cx.1 cx.2.1 dX3_settleAskings_10 rfl (lv_at hl 0 rfl) ?_
        refine cd_gA (o := 3) (k := 7) (f := 103) hj cx hw hic3 rfl ⟨by decide, rfl, by decide, rfl⟩ rfl (by decide) (List.mem_cons_of_mem _ cm_339) dX3_settleAskings_11 ?_
        refine lv_iload_n cx.1 cx.2.1 dX3_settleAskings_14 rfl (lv_at hl 1 rfl) ?_
        obtain ⟨v1, e_v1, h⟩ := md_ob h
        refine cd_lZ (f := 103) hj cx hw (by decide) (by decide) rfl e_v1 dX3_settleAskings_15 ?_
        refine lv_if_ne (tgt := 35) cx.1 cx.2.1 dX3_settleAskings_16 (by decide) (fun c16 => ?_) (fun c16 => ?_)
        · have h := md_in c16 h
          exact J35 _ hj σ l1 _ _ _ h hw (lv_sub hl [0, 1] rfl)
        · have h := md_ip c16 h
          refine lv_aload_n cx.1 cx.2.1 dX3_settleAskings_19 rfl (lv_at hl 0 rfl) ?_
          refine cd_gA (o := 3) (k := 8) (f := 104) hj cx hw hic3 rfl ⟨by decide, rfl, by decide, rfl⟩ rfl (by decide) (List.mem_cons_of_mem _ cm_338) dX3_settleAskings_20 ?_
          refine lv_iload_n cx.1 cx.2.1 dX3_settleAskings_23 rfl (lv_at hl 1 rfl) ?_
          refine lv_aload_n cx.1 cx.2.1 dX3_settleAskings_24 rfl (lv_at hl 0 rfl) ?_
          refine lv_aload_n cx.1 cx.2.1 dX3_settleAskings_25 rfl (lv_at hl 0 rfl) ?_
          refine cd_gA (o := 3) (k := 6) (f := 102) hj cx hw hic3 rfl ⟨by decide, rfl, by decide, rfl⟩ rfl (by decide) (List.mem_cons_of_mem _ cm_312) dX3_settleAskings_26 ?_
          refine lv_iload_n cx.1 cx.2.1 dX3_settleAskings_29 rfl (lv_at hl 1 rfl) ?_
          obtain ⟨u2, e_u2, h⟩ := md_ob h
          have hb_u2 : u2 < 192 := (cd_ldRs e_u2).2.2
          refine cd_lR (f := 102) (o2 := 5) hj cx hw (by decide) (by decide) rfl (by decide) rfl rfl e_u2 dX3_settleAskings_30 ?_
          obtain ⟨p3, e_p3, h⟩ := md_ob h
          refine hp_callVi (As := [.ref (ad 5 u2)]) (rest := [.int l1, .ref (ad 204 0)]) cx hw (kc_X3_holders l D cA E _ ad _ hj oq sgq sgv hE n σ u2 (show _ < 196 by omega) p3 e_p3) (cwV 1 cx.2.2.2.2.2.1 (cd_giV cm_568 cm_359 cm_360 cm_332 cm_361) rfl rfl rfl hdc_X3_holders ⟨Nat.le_of_ble_eq_true rfl, Nat.le_of_ble_eq_true rfl⟩) (cd_atO hj (by decide) (by decide)) rfl rfl hl.1 rfl (Nat.le_of_ble_eq_true rfl) dX3_settleAskings_31 ⟨Nat.le_refl _, Nat.le_refl _⟩ (fun r u H locs hp hw => ?_)
          obtain ⟨rfl, ca, hj, rfl⟩ := hp
          obtain ⟨σ4, e_σ4, h⟩ := md_ob h
          refine cd_sI (f := 104) hj cx hw (by decide) (by decide) rfl e_σ4 dX3_settleAskings_34 (fun H locs hw => ?_)
          exact J35 _ hj σ4 l1 _ _ _ h hw (lv_sub hl [0, 1] rfl)
  obtain ⟨q5, e_q5, h⟩ := md_ob h
  refine L2 n _ hj σ0 0 q5 _ _ _ e_q5 hw (lv_sub hl [1, 0] rfl) (fun ca hj H locs ls hw hl => ?_)
  exact hp_vret cx hw ((cd_ret hj h).2) dX3_settleAskings_41
set_option maxHeartbeats 4000000 in
set_option maxRecDepth 100000 in
theorem kc_X9_length (l : Launch) (D : va_G) (cA : Nat → ClassId) (E : hp_N) (sz : Nat) (ad : Nat → Nat → Nat) (ca0 : Nat → Nat) (hj : cd_inj ad ca0) (oq sgq sgv : Nat) (hE : cd_E E oq sgq sgv) (n : Nat) (σ0 : cd_S) (a0 : Nat) (hb_a0 : a0 < 60) (p : (Int32 × cd_S)) (h : f_X9_length n σ0 a0 = some p) : Met l yX9_length (Cond.code yX9_length cX9_length 1 (some .int) :: v_CLS) ({ frames := 0, cells := 0, slots := 0, locals := 0 }) (hp_Pc D vwCl (hp_Tl cA) E sz (cd_pic cA ad ca0 σ0) [.ref (ad 9 a0)]) (hp_Qi D vwCl (hp_Tl cA) sz (cd_pic cA ad ca0 σ0) (fun r u => r = p.1 ∧ ∃ ca1, cd_inj ad ca1 ∧ u = cd_pic cA ad ca1 p.2)) 0 0 (hp_A (cd_pic cA ad ca0 σ0) sz) := by
  refine hp_ofW (cc := cX9_length) (maxL := 1) (ret := (some .int)) (by decide) rfl (Nat.le_of_ble_eq_true rfl) ?_
  intro pp ee ss mm bb mt cd ls cx hsz hw hl
  have hl : lv_has ls 1 [(0, .ref (ad 9 a0))] := hl
  refine lv_aload_n cx.1 cx.2.1 dX9_length_0 rfl (lv_at hl 0 rfl) ?_
  refine cd_gO (o2 := 6) (e2 := (17 + 3 * a0)) (o := 9) (k := 15) (f := 303) hj cx hw hic9 rfl ⟨by decide, rfl, by decide, rfl⟩ rfl (show _ < 60 by omega) ⟨rfl, rfl⟩ (List.mem_cons_of_mem _ cm_543) dX9_length_1 ?_
  refine cd_gI (o := 6) (k := 1) (f := 193) hj cx hw hic6 rfl ⟨by decide, rfl, by decide, rfl⟩ rfl (show _ < 197 by omega) (List.mem_cons_of_mem _ cm_544) dX9_length_4 ?_
  refine lv_iconst (v := 3) cx.1 cx.2.1 dX9_length_7 (by decide) ?_
  refine lv_idiv cx.1 cx.2.1 dX9_length_8 (by decide) ?_
  exact hp_iret cx hw (cd_ret hj h) dX9_length_9
set_option maxHeartbeats 4000000 in
set_option maxRecDepth 100000 in
theorem kc_X6_addPair (l : Launch) (D : va_G) (cA : Nat → ClassId) (E : hp_N) (sz : Nat) (ad : Nat → Nat → Nat) (ca0 : Nat → Nat) (hj : cd_inj ad ca0) (oq sgq sgv : Nat) (hE : cd_E E oq sgq sgv) (n : Nat) (σ0 : cd_S) (b0 : cd_B) (a0 : Nat) (a1 : Int32) (hb_a0 : a0 < 197) (p : (Int32 × cd_S × cd_B)) (h : f_X6_addPair n σ0 b0 a0 a1 = some p) : (p.2.2.1 ≤ b0.1 ∧ p.2.2.2 ≤ b0.2) ∧ Met l yX6_addPair (Cond.code yX6_addPair cX6_addPair 2 none :: v_CLS) ({ frames := 4, cells := b0.1 - p.2.2.1, slots := b0.2 - p.2.2.2, locals := 111 }) (hp_Pc D vwCl (hp_Tl cA) E sz (cd_pic cA ad ca0 σ0) [.ref (ad 6 a0), .int a1]) (hp_Qv D vwCl (hp_Tl cA) sz (cd_pic cA ad ca0 σ0) (fun u => ∃ ca1, cd_inj ad ca1 ∧ u = cd_pic cA ad ca1 p.2.1)) (b0.1 - p.2.2.1) (b0.2 - p.2.2.2) (hp_A (cd_pic cA ad ca0 σ0) sz) := by
  obtain ⟨hm0, hn0, h⟩ := cd_cks h
  have hM0 : p.2.2.1 ≤ b0.1 ∧ p.2.2.2 ≤ b0.2 := ⟨hm0, hn0⟩
  refine ⟨hM0, ?_⟩
  refine hp_ofW (cc := cX6_addPair) (maxL := 2) (ret := none) (by decide) rfl (Nat.le_of_ble_eq_true rfl) ?_
  intro pp ee ss mm bb mt cd ls cx hsz hw hl
  have hl : lv_has ls 2 [(0, .ref (ad 6 a0)), (1, .int a1)] := hl
  refine W.widen (k := b0.1 - b0.1) (n := b0.2 - b0.2) (Nat.zero_le _) (Nat.zero_le _) ?_
  refine lv_aload_n cx.1 cx.2.1 dX6_addPair_0 rfl (lv_at hl 0 rfl) ?_
  refine lv_iload_n cx.1 cx.2.1 dX6_addPair_1 rfl (lv_at hl 1 rfl) ?_
  refine lv_bipush (v := 8) cx.1 cx.2.1 dX6_addPair_2 (by decide) ?_
  refine lv_iushr (v := ((a1.toUInt32 >>> ((8 : Int32).toUInt32 &&& Int32.toUInt32 31)).toInt32)) cx.1 cx.2.1 dX6_addPair_4 rfl ?_
  refine lv_sipush (v := 255) cx.1 cx.2.1 dX6_addPair_5 (by decide) ?_
  refine lv_iand cx.1 cx.2.1 dX6_addPair_8 ?_
  refine lv_i2l (v := ((((a1.toUInt32 >>> ((8 : Int32).toUInt32 &&& Int32.toUInt32 31)).toInt32) &&& 255).toInt64)) cx.1 cx.2.1 dX6_addPair_9 rfl ?_
  obtain ⟨p1, e_p1, h⟩ := md_ob h
  obtain ⟨hm2, hn2, h⟩ := cd_cks h
  have hM2 : p.2.2.1 ≤ p1.2.2.1 ∧ p.2.2.2 ≤ p1.2.2.2 := ⟨hm2, hn2⟩
  have hle1 := (kc_X6_add l D cA E sz ad _ hj oq sgq sgv hE n σ0 b0 a0 (((((a1.toUInt32 >>> ((8 : Int32).toUInt32 &&& Int32.toUInt32 31)).toInt32) &&& 255).toInt64)) (show _ < 197 by omega) p1 e_p1).1
  refine hp_callVv (As := [.long ((((a1.toUInt32 >>> ((8 : Int32).toUInt32 &&& Int32.toUInt32 31)).toInt32) &&& 255).toInt64)]) (rest := []) cx hw ((kc_X6_add l D cA E _ ad _ hj oq sgq sgv hE n σ0 b0 a0 (((((a1.toUInt32 >>> ((8 : Int32).toUInt32 &&& Int32.toUInt32 31)).toInt32) &&& 255).toInt64)) (show _ < 197 by omega) p1 e_p1).2) (cwV 1 cx.2.2.2.2.2.1 (cd_giV cm_569 cm_40 cm_41 cm_5 cm_42) rfl rfl rfl hdc_X6_add ⟨Nat.le_of_ble_eq_true rfl, Nat.le_of_ble_eq_true rfl⟩) (cd_atO hj (by decide) (show _ < 197 by omega)) rfl rfl hl.1 rfl (Nat.le_of_ble_eq_true rfl) dX6_addPair_10 ⟨by (try dsimp only); omega, by (try dsimp only); omega⟩ (fun u H locs hp hw => ?_)
  obtain ⟨ca, hj, rfl⟩ := hp
  refine W.widen (k := b0.1 - p1.2.2.1) (n := b0.2 - p1.2.2.2) (by omega) (by omega) ?_
  refine lv_aload_n cx.1 cx.2.1 dX6_addPair_13 rfl (lv_at hl 0 rfl) ?_
  refine lv_iload_n cx.1 cx.2.1 dX6_addPair_14 rfl (lv_at hl 1 rfl) ?_
  refine lv_sipush (v := 255) cx.1 cx.2.1 dX6_addPair_15 (by decide) ?_
  refine lv_iand cx.1 cx.2.1 dX6_addPair_18 ?_
  refine lv_i2l (v := ((a1 &&& 255).toInt64)) cx.1 cx.2.1 dX6_addPair_19 rfl ?_
  obtain ⟨p3, e_p3, h⟩ := md_ob h
  obtain ⟨hm4, hn4, h⟩ := cd_cks h
  have hM4 : p.2.2.1 ≤ p3.2.2.1 ∧ p.2.2.2 ≤ p3.2.2.2 := ⟨hm4, hn4⟩
  have hle3 := (kc_X6_add l D cA E sz ad _ hj oq sgq sgv hE n p1.2.1 (p1.2.2) a0 (((a1 &&& 255).toInt64)) (show _ < 197 by omega) p3 e_p3).1
  refine hp_callVv (As := [.long ((a1 &&& 255).toInt64)]) (rest := []) cx hw ((kc_X6_add l D cA E _ ad _ hj oq sgq sgv hE n p1.2.1 (p1.2.2) a0 (((a1 &&& 255).toInt64)) (show _ < 197 by omega) p3 e_p3).2) (cwV 1 cx.2.2.2.2.2.1 (cd_giV cm_569 cm_40 cm_41 cm_5 cm_42) rfl rfl rfl hdc_X6_add ⟨Nat.le_of_ble_eq_true rfl, Nat.le_of_ble_eq_true rfl⟩) (cd_atO hj (by decide) (show _ < 197 by omega)) rfl rfl hl.1 rfl (Nat.le_of_ble_eq_true rfl) dX6_addPair_20 ⟨by (try dsimp only); omega, by (try dsimp only); omega⟩ (fun u H locs hp hw => ?_)
  obtain ⟨ca, hj, rfl⟩ := hp
  refine W.widen (k := b0.1 - p3.2.2.1) (n := b0.2 - p3.2.2.2) (by omega) (by omega) ?_
  exact hp_vret cx hw ((cd_retb hj h).2) dX6_addPair_23 (cd_le1 h) (cd_le2 h)
set_option maxHeartbeats 4000000 in
set_option maxRecDepth 100000 in
theorem kc_X9_writeEntry (l : Launch) (D : va_G) (cA : Nat → ClassId) (E : hp_N) (sz : Nat) (ad : Nat → Nat → Nat) (ca0 : Nat → Nat) (hj : cd_inj ad ca0) (oq sgq sgv : Nat) (hE : cd_E E oq sgq sgv) (n : Nat) (σ0 : cd_S) (b0 : cd_B) (a0 : Nat) (a1 : Nat) (hb_a0 : a0 < 60) (hb_a1 : a1 < 197) (p : (Int32 × cd_S × cd_B)) (h : f_X9_writeEntry n σ0 b0 a0 a1 = some p) : (p.2.2.1 ≤ b0.1 ∧ p.2.2.2 ≤ b0.2) ∧ Met l yX9_writeEntry (Cond.code yX9_writeEntry cX9_writeEntry 3 none :: v_CLS) ({ frames := 5, cells := b0.1 - p.2.2.1, slots := b0.2 - p.2.2.2, locals := 132 }) (hp_Pc D vwCl (hp_Tl cA) E sz (cd_pic cA ad ca0 σ0) [.ref (ad 9 a0), .ref (ad 6 a1)]) (hp_Qv D vwCl (hp_Tl cA) sz (cd_pic cA ad ca0 σ0) (fun u => ∃ ca1, cd_inj ad ca1 ∧ u = cd_pic cA ad ca1 p.2.1)) (b0.1 - p.2.2.1) (b0.2 - p.2.2.2) (hp_A (cd_pic cA ad ca0 σ0) sz) := by
  obtain ⟨hm0, hn0, h⟩ := cd_cks h
  have hM0 : p.2.2.1 ≤ b0.1 ∧ p.2.2.2 ≤ b0.2 := ⟨hm0, hn0⟩
  refine ⟨hM0, ?_⟩
  refine hp_ofW (cc := cX9_writeEntry) (maxL := 3) (ret := none) (by decide) rfl (Nat.le_of_ble_eq_true rfl) ?_
  intro pp ee ss mm bb mt cd ls cx hsz hw hl
  have hl : lv_has ls 3 [(0, .ref (ad 9 a0)), (1, .ref (ad 6 a1))] := hl
  refine W.widen (k := b0.1 - b0.1) (n := b0.2 - b0.2) (Nat.zero_le _) (Nat.zero_le _) ?_
  have J41 : ∀ (ca : Nat → Nat) (hj : cd_inj ad ca) (σ : cd_S) (b : cd_B) (t0 : Int32) (H : Heap) (locs : List Loc) (ls : Array Slot), b.1 ≤ b0.1 → b.2 ≤ b0.2 → p.2.2.1 ≤ b.1 → p.2.2.2 ≤ b.2 → f_X9_writeEntry_J41 n a0 a1 σ b t0 = some p → hp_w D vwCl (hp_Tl cA) E (hp_A (cd_pic cA ad ca0 σ0) sz) ss H locs (cd_pic cA ad ca σ) → lv_has ls 3 [(0, .ref (ad 9 a0)), (1, .ref (ad 6 a1))] → W pp l ee ({ frames := 5, cells := b0.1 - p.2.2.1, slots := b0.2 - p.2.2.2, locals := 132 }) ss mm [.ref (ad 9 a0), .ref (ad 6 a1)].toArray bb mt cd H locs (b0.1 - b.1) (b0.2 - b.2) (MQ bb (hp_Qv D vwCl (hp_Tl cA) sz (cd_pic cA ad ca0 σ0) (fun u => ∃ ca1, cd_inj ad ca1 ∧ u = cd_pic cA ad ca1 p.2.1)) [.ref (ad 9 a0), .ref (ad 6 a1)].toArray ss (b0.1 - p.2.2.1) (b0.2 - p.2.2.2) (hp_A (cd_pic cA ad ca0 σ0) sz)) (F0 mm 41 ls [.int t0]) := by
    intro ca hj σ b t0 H locs ls hb1 hb2 hf1 hf2 h hw hl
    refine lv_istore_n (lv' := [(2, .int t0), (0, .ref (ad 9 a0)), (1, .ref (ad 6 a1))]) cx.1 cx.2.1 dX9_writeEntry_41 rfl hl (by decide) rfl (fun ls hl => ?_)
    refine lv_aload_n cx.1 cx.2.1 dX9_writeEntry_42 rfl (lv_at hl 2 rfl) ?_
    refine lv_iload_n cx.1 cx.2.1 dX9_writeEntry_43 rfl (lv_at hl 0 rfl) ?_
    refine lv_i2l (v := (t0.toInt64)) cx.1 cx.2.1 dX9_writeEntry_44 rfl ?_
    obtain ⟨p1, e_p1, h⟩ := md_ob h
    obtain ⟨hm2, hn2, h⟩ := cd_cks h
    have hM2 : p.2.2.1 ≤ p1.2.2.1 ∧ p.2.2.2 ≤ p1.2.2.2 := ⟨hm2, hn2⟩
    have hle1 := (kc_X6_add l D cA E sz ad _ hj oq sgq sgv hE n σ b a1 ((t0.toInt64)) (show _ < 197 by omega) p1 e_p1).1
    refine hp_callVv (As := [.long (t0.toInt64)]) (rest := []) cx hw ((kc_X6_add l D cA E _ ad _ hj oq sgq sgv hE n σ b a1 ((t0.toInt64)) (show _ < 197 by omega) p1 e_p1).2) (cwV 1 cx.2.2.2.2.2.1 (cd_giV cm_570 cm_40 cm_41 cm_5 cm_42) rfl rfl rfl hdc_X6_add ⟨Nat.le_of_ble_eq_true rfl, Nat.le_of_ble_eq_true rfl⟩) (cd_atO hj (by decide) (show _ < 197 by omega)) rfl rfl hl.1 rfl (Nat.le_of_ble_eq_true rfl) dX9_writeEntry_45 ⟨by (try dsimp only); omega, by (try dsimp only); omega⟩ (fun u H locs hp hw => ?_)
    obtain ⟨ca, hj, rfl⟩ := hp
    refine W.widen (k := b0.1 - p1.2.2.1) (n := b0.2 - p1.2.2.2) (by omega) (by omega) ?_
    refine lv_aload_n cx.1 cx.2.1 dX9_writeEntry_48 rfl (lv_at hl 2 rfl) ?_
    refine lv_aload_n cx.1 cx.2.1 dX9_writeEntry_49 rfl (lv_at hl 1 rfl) ?_
    refine cd_gI (o := 9) (k := 3) (f := 291) hj cx hw hic9 rfl ⟨by decide, rfl, by decide, rfl⟩ rfl (show _ < 60 by omega) (List.mem_cons_of_mem _ cm_571) dX9_writeEntry_50 ?_
    obtain ⟨p3, e_p3, h⟩ := md_ob h
    obtain ⟨hm4, hn4, h⟩ := cd_cks h
    have hM4 : p.2.2.1 ≤ p3.2.2.1 ∧ p.2.2.2 ≤ p3.2.2.2 := ⟨hm4, hn4⟩
    have hle3 := (kc_X6_addPair l D cA E sz ad _ hj oq sgq sgv hE n p1.2.1 (p1.2.2) a1 ((cI p1.2.1 291 a0)) (show _ < 197 by omega) p3 e_p3).1
    refine hp_callVv (As := [.int (cI p1.2.1 291 a0)]) (rest := []) cx hw ((kc_X6_addPair l D cA E _ ad _ hj oq sgq sgv hE n p1.2.1 (p1.2.2) a1 ((cI p1.2.1 291 a0)) (show _ < 197 by omega) p3 e_p3).2) (cwV 1 cx.2.2.2.2.2.1 (cd_giV cm_572 cm_573 cm_574 cm_5 cm_575) rfl rfl rfl hdc_X6_addPair ⟨Nat.le_of_ble_eq_true rfl, Nat.le_of_ble_eq_true rfl⟩) (cd_atO hj (by decide) (show _ < 197 by omega)) rfl rfl hl.1 rfl (Nat.le_of_ble_eq_true rfl) dX9_writeEntry_53 ⟨by (try dsimp only); omega, by (try dsimp only); omega⟩ (fun u H locs hp hw => ?_)
    obtain ⟨ca, hj, rfl⟩ := hp
    refine W.widen (k := b0.1 - p3.2.2.1) (n := b0.2 - p3.2.2.2) (by omega) (by omega) ?_
    refine lv_aload_n cx.1 cx.2.1 dX9_writeEntry_56 rfl (lv_at hl 1 rfl) ?_
    refine cd_gI (o := 9) (k := 1) (f := 289) hj cx hw hic9 rfl ⟨by decide, rfl, by decide, rfl⟩ rfl (show _ < 60 by omega) (List.mem_cons_of_mem _ cm_534) dX9_writeEntry_57 ?_
    refine lv_iconst (v := 3) cx.1 cx.2.1 dX9_writeEntry_60 (by decide) ?_
    refine lv_icmp_ne (tgt := 72) cx.1 cx.2.1 dX9_writeEntry_61 (by decide) (fun c61 => ?_) (fun c61 => ?_)
    · have h := md_in c61 h
      exact hp_vret cx hw ((cd_retb hj h).2) dX9_writeEntry_72 (cd_le1 h) (cd_le2 h)
    · have h := md_ip c61 h
      refine lv_aload_n cx.1 cx.2.1 dX9_writeEntry_64 rfl (lv_at hl 2 rfl) ?_
      refine lv_aload_n cx.1 cx.2.1 dX9_writeEntry_65 rfl (lv_at hl 1 rfl) ?_
      refine cd_gI (o := 9) (k := 8) (f := 296) hj cx hw hic9 rfl ⟨by decide, rfl, by decide, rfl⟩ rfl (show _ < 60 by omega) (List.mem_cons_of_mem _ cm_539) dX9_writeEntry_66 ?_
      obtain ⟨p5, e_p5, h⟩ := md_ob h
      obtain ⟨hm6, hn6, h⟩ := cd_cks h
      have hM6 : p.2.2.1 ≤ p5.2.2.1 ∧ p.2.2.2 ≤ p5.2.2.2 := ⟨hm6, hn6⟩
      have hle5 := (kc_X6_addPair l D cA E sz ad _ hj oq sgq sgv hE n p3.2.1 (p3.2.2) a1 ((cI p3.2.1 296 a0)) (show _ < 197 by omega) p5 e_p5).1
      refine hp_callVv (As := [.int (cI p3.2.1 296 a0)]) (rest := []) cx hw ((kc_X6_addPair l D cA E _ ad _ hj oq sgq sgv hE n p3.2.1 (p3.2.2) a1 ((cI p3.2.1 296 a0)) (show _ < 197 by omega) p5 e_p5).2) (cwV 1 cx.2.2.2.2.2.1 (cd_giV cm_572 cm_573 cm_574 cm_5 cm_575) rfl rfl rfl hdc_X6_addPair ⟨Nat.le_of_ble_eq_true rfl, Nat.le_of_ble_eq_true rfl⟩) (cd_atO hj (by decide) (show _ < 197 by omega)) rfl rfl hl.1 rfl (Nat.le_of_ble_eq_true rfl) dX9_writeEntry_69 ⟨by (try dsimp only); omega, by (try dsimp only); omega⟩ (fun u H locs hp hw => ?_)
      obtain ⟨ca, hj, rfl⟩ := hp
      refine W.widen (k := b0.1 - p5.2.2.1) (n := b0.2 - p5.2.2.2) (by omega) (by omega) ?_
      exact hp_vret cx hw ((cd_retb hj h).2) dX9_writeEntry_72 (cd_le1 h) (cd_le2 h)
  refine lv_aload_n cx.1 cx.2.1 dX9_writeEntry_0 rfl (lv_at hl 0 rfl) ?_
  refine cd_gI (o := 9) (k := 1) (f := 289) hj cx hw hic9 rfl ⟨by decide, rfl, by decide, rfl⟩ rfl (show _ < 60 by omega) (List.mem_cons_of_mem _ cm_534) dX9_writeEntry_1 ?_
  refine lv_iconst (v := 2) cx.1 cx.2.1 dX9_writeEntry_4 (by decide) ?_
  refine lv_icmp_ne (tgt := 13) cx.1 cx.2.1 dX9_writeEntry_5 (by decide) (fun c5 => ?_) (fun c5 => ?_)
  · have h := md_in c5 h
    refine lv_aload_n cx.1 cx.2.1 dX9_writeEntry_13 rfl (lv_at hl 0 rfl) ?_
    refine cd_gI (o := 9) (k := 1) (f := 289) hj cx hw hic9 rfl ⟨by decide, rfl, by decide, rfl⟩ rfl (show _ < 60 by omega) (List.mem_cons_of_mem _ cm_534) dX9_writeEntry_14 ?_
    refine lv_iconst (v := 3) cx.1 cx.2.1 dX9_writeEntry_17 (by decide) ?_
    refine lv_icmp_ne (tgt := 26) cx.1 cx.2.1 dX9_writeEntry_18 (by decide) (fun c18 => ?_) (fun c18 => ?_)
    · have h := md_in c18 h
      refine lv_aload_n cx.1 cx.2.1 dX9_writeEntry_26 rfl (lv_at hl 0 rfl) ?_
      refine cd_gI (o := 9) (k := 1) (f := 289) hj cx hw hic9 rfl ⟨by decide, rfl, by decide, rfl⟩ rfl (show _ < 60 by omega) (List.mem_cons_of_mem _ cm_534) dX9_writeEntry_27 ?_
      refine lv_iconst (v := 4) cx.1 cx.2.1 dX9_writeEntry_30 (by decide) ?_
      refine lv_icmp_ne (tgt := 39) cx.1 cx.2.1 dX9_writeEntry_31 (by decide) (fun c31 => ?_) (fun c31 => ?_)
      · have h := md_in c31 h
        refine lv_bipush (v := 30) cx.1 cx.2.1 dX9_writeEntry_39 (by decide) ?_
        exact J41 _ hj σ0 b0 30 _ _ _ (by omega) (by omega) (by omega) (by omega) h hw (lv_sub hl [0, 1] rfl)
      · have h := md_ip c31 h
        refine lv_bipush (v := 33) cx.1 cx.2.1 dX9_writeEntry_34 (by decide) ?_
        refine lv_goto (tgt := 41) cx.1 cx.2.1 dX9_writeEntry_36 (by decide) ?_
        exact J41 _ hj σ0 b0 33 _ _ _ (by omega) (by omega) (by omega) (by omega) h hw (lv_sub hl [0, 1] rfl)
    · have h := md_ip c18 h
      refine lv_bipush (v := 32) cx.1 cx.2.1 dX9_writeEntry_21 (by decide) ?_
      refine lv_goto (tgt := 41) cx.1 cx.2.1 dX9_writeEntry_23 (by decide) ?_
      exact J41 _ hj σ0 b0 32 _ _ _ (by omega) (by omega) (by omega) (by omega) h hw (lv_sub hl [0, 1] rfl)
  · have h := md_ip c5 h
    refine lv_bipush (v := 31) cx.1 cx.2.1 dX9_writeEntry_8 (by decide) ?_
    refine lv_goto (tgt := 41) cx.1 cx.2.1 dX9_writeEntry_10 (by decide) ?_
    exact J41 _ hj σ0 b0 31 _ _ _ (by omega) (by omega) (by omega) (by omega) h hw (lv_sub hl [0, 1] rfl)
set_option maxHeartbeats 4000000 in
set_option maxRecDepth 100000 in
theorem kc_X9_first (l : Launch) (D : va_G) (cA : Nat → ClassId) (E : hp_N) (sz : Nat) (ad : Nat → Nat → Nat) (ca0 : Nat → Nat) (hj : cd_inj ad ca0) (oq sgq sgv : Nat) (hE : cd_E E oq sgq sgv) (n : Nat) (σ0 : cd_S) (a0 : Nat) (a1 : Int32) (hb_a0 : a0 < 60) (p : (Int32 × cd_S)) (h : f_X9_first n σ0 a0 a1 = some p) : Met l yX9_first (Cond.code yX9_first cX9_first 2 (some .int) :: v_CLS) ({ frames := 1, cells := 0, slots := 0, locals := 21 }) (hp_Pc D vwCl (hp_Tl cA) E sz (cd_pic cA ad ca0 σ0) [.ref (ad 9 a0), .int a1]) (hp_Qi D vwCl (hp_Tl cA) sz (cd_pic cA ad ca0 σ0) (fun r u => r = p.1 ∧ ∃ ca1, cd_inj ad ca1 ∧ u = cd_pic cA ad ca1 p.2)) 0 0 (hp_A (cd_pic cA ad ca0 σ0) sz) := by
  refine hp_ofW (cc := cX9_first) (maxL := 2) (ret := (some .int)) (by decide) rfl (Nat.le_of_ble_eq_true rfl) ?_
  intro pp ee ss mm bb mt cd ls cx hsz hw hl
  have hl : lv_has ls 2 [(0, .ref (ad 9 a0)), (1, .int a1)] := hl
  refine lv_aload_n cx.1 cx.2.1 dX9_first_0 rfl (lv_at hl 0 rfl) ?_
  refine cd_gO (o2 := 6) (e2 := (17 + 3 * a0)) (o := 9) (k := 15) (f := 303) hj cx hw hic9 rfl ⟨by decide, rfl, by decide, rfl⟩ rfl (show _ < 60 by omega) ⟨rfl, rfl⟩ (List.mem_cons_of_mem _ cm_543) dX9_first_1 ?_
  refine lv_iload_n cx.1 cx.2.1 dX9_first_4 rfl (lv_at hl 1 rfl) ?_
  refine lv_iconst (v := 3) cx.1 cx.2.1 dX9_first_5 (by decide) ?_
  refine lv_imul cx.1 cx.2.1 dX9_first_6 ?_
  refine lv_iconst (v := 1) cx.1 cx.2.1 dX9_first_7 (by decide) ?_
  refine lv_iadd cx.1 cx.2.1 dX9_first_8 ?_
  obtain ⟨p1, e_p1, h⟩ := md_ob h
  refine hp_callVi (As := [.int ((a1 * 3) + 1)]) (rest := []) cx hw (kc_X6_at l D cA E _ ad _ hj oq sgq sgv hE n σ0 ((17 + 3 * a0)) (((a1 * 3) + 1)) (show _ < 197 by omega) p1 e_p1) (cwV 1 cx.2.2.2.2.2.1 (cd_giV cm_576 cm_17 cm_18 cm_5 cm_19) rfl rfl rfl hdc_X6_at ⟨Nat.le_of_ble_eq_true rfl, Nat.le_of_ble_eq_true rfl⟩) (cd_atO hj (by decide) (show _ < 197 by omega)) rfl rfl hl.1 rfl (Nat.le_of_ble_eq_true rfl) dX9_first_9 ⟨Nat.le_refl _, Nat.le_refl _⟩ (fun r u H locs hp hw => ?_)
  obtain ⟨rfl, ca, hj, rfl⟩ := hp
  exact hp_iret cx hw (cd_ret hj h) dX9_first_12
set_option maxHeartbeats 4000000 in
set_option maxRecDepth 100000 in
theorem kc_X9_captureIndex (l : Launch) (D : va_G) (cA : Nat → ClassId) (E : hp_N) (sz : Nat) (ad : Nat → Nat → Nat) (ca0 : Nat → Nat) (hj : cd_inj ad ca0) (oq sgq sgv : Nat) (hE : cd_E E oq sgq sgv) (n : Nat) (σ0 : cd_S) (a0 : Nat) (a1 : Int32) (hb_a0 : a0 < 60) (p : (Int32 × cd_S)) (h : f_X9_captureIndex n σ0 a0 a1 = some p) : Met l yX9_captureIndex (Cond.code yX9_captureIndex cX9_captureIndex 3 (some .int) :: v_CLS) ({ frames := 0, cells := 0, slots := 0, locals := 0 }) (hp_Pc D vwCl (hp_Tl cA) E sz (cd_pic cA ad ca0 σ0) [.ref (ad 9 a0), .int a1]) (hp_Qi D vwCl (hp_Tl cA) sz (cd_pic cA ad ca0 σ0) (fun r u => r = p.1 ∧ ∃ ca1, cd_inj ad ca1 ∧ u = cd_pic cA ad ca1 p.2)) 0 0 (hp_A (cd_pic cA ad ca0 σ0) sz) := by
  refine hp_ofW (cc := cX9_captureIndex) (maxL := 3) (ret := (some .int)) (by decide) rfl (Nat.le_of_ble_eq_true rfl) ?_
  intro pp ee ss mm bb mt cd ls cx hsz hw hl
  have hl : lv_has ls 3 [(0, .ref (ad 9 a0)), (1, .int a1)] := hl
  refine lv_iconst (v := 0) cx.1 cx.2.1 dX9_captureIndex_0 (by decide) ?_
  refine lv_istore_n (lv' := [(2, .int 0), (0, .ref (ad 9 a0)), (1, .int a1)]) cx.1 cx.2.1 dX9_captureIndex_1 rfl hl (by decide) rfl (fun ls hl => ?_)
  have L2 : ∀ (j : Nat) (ca : Nat → Nat) (hj : cd_inj ad ca) (σ : cd_S) (l1 : Int32) (l2 : Int32) (q : ((Int32 × cd_S) ⊕ (cd_S × Int32))) (H : Heap) (locs : List Loc) (ls : Array Slot), f_X9_captureIndex_L2 n a0 l1 j σ l2 = some q → hp_w D vwCl (hp_Tl cA) E (hp_A (cd_pic cA ad ca0 σ0) sz) ss H locs (cd_pic cA ad ca σ) → lv_has ls 3 [(0, .ref (ad 9 a0)), (1, .int l1), (2, .int l2)] → (∀ t, q = Sum.inr t → (∀ (ca : Nat → Nat) (hj : cd_inj ad ca) (H : Heap) (locs : List Loc) (ls : Array Slot), hp_w D vwCl (hp_Tl cA) E (hp_A (cd_pic cA ad ca0 σ0) sz) ss H locs (cd_pic cA ad ca t.1) → lv_has ls 3 [] → W pp l ee ({ frames := 0, cells := 0, slots := 0, locals := 0 }) ss mm [.ref (ad 9 a0), .int a1].toArray bb mt cd H locs 0 0 (MQ bb (hp_Qi D vwCl (hp_Tl cA) sz (cd_pic cA ad ca0 σ0) (fun r u => r = p.1 ∧ ∃ ca1, cd_inj ad ca1 ∧ u = cd_pic cA ad ca1 p.2)) [.ref (ad 9 a0), .int a1].toArray ss 0 0 (hp_A (cd_pic cA ad ca0 σ0) sz)) (F0 mm 28 ls []))) → (∀ r, q = Sum.inl r → r = p) → W pp l ee ({ frames := 0, cells := 0, slots := 0, locals := 0 }) ss mm [.ref (ad 9 a0), .int a1].toArray bb mt cd H locs 0 0 (MQ bb (hp_Qi D vwCl (hp_Tl cA) sz (cd_pic cA ad ca0 σ0) (fun r u => r = p.1 ∧ ∃ ca1, cd_inj ad ca1 ∧ u = cd_pic cA ad ca1 p.2)) [.ref (ad 9 a0), .int a1].toArray ss 0 0 (hp_A (cd_pic cA ad ca0 σ0) sz)) (F0 mm 2 ls []) := by
    intro j
    induction j with
    | zero => intro ca hj σ l1 l2 q H locs ls h; exact nomatch h
    | succ j ih =>
      intro ca hj σ l1 l2 q H locs ls h hw hl K KR
      unfold f_X9_captureIndex_L2 at h
      refine lv_iload_n cx.1 cx.2.1 dX9_captureIndex_2 rfl (lv_at hl 2 rfl) ?_
      refine lv_aload_n cx.1 cx.2.1 dX9_captureIndex_3 rfl (lv_at hl 0 rfl) ?_
      refine cd_gI (o := 9) (k := 11) (f := 299) hj cx hw hic9 rfl ⟨by decide, rfl, by decide, rfl⟩ rfl (show _ < 60 by omega) (List.mem_cons_of_mem _ cm_97) dX9_captureIndex_4 ?_
      refine lv_icmp_ge (tgt := 28) cx.1 cx.2.1 dX9_captureIndex_7 (by decide) (fun c7 => ?_) (fun c7 => ?_)
      · have h := md_ip c7 h
        exact K _ (Option.some.inj h).symm _ hj _ _ _ hw (lv_sub hl [] rfl)
      · have h := md_in c7 h
        refine lv_aload_n cx.1 cx.2.1 dX9_captureIndex_10 rfl (lv_at hl 0 rfl) ?_
        refine cd_gA (o := 9) (k := 12) (f := 300) hj cx hw hic9 rfl ⟨by decide, rfl, by decide, rfl⟩ rfl (show _ < 60 by omega) (List.mem_cons_of_mem _ cm_577) dX9_captureIndex_11 ?_
        refine lv_iload_n cx.1 cx.2.1 dX9_captureIndex_14 rfl (lv_at hl 2 rfl) ?_
        obtain ⟨v1, e_v1, h⟩ := md_ob h
        refine cd_lI (f := 300) hj cx hw (by decide) (show _ < 60 by omega) rfl e_v1 dX9_captureIndex_15 ?_
        refine lv_iload_n cx.1 cx.2.1 dX9_captureIndex_16 rfl (lv_at hl 1 rfl) ?_
        refine lv_icmp_ne (tgt := 22) cx.1 cx.2.1 dX9_captureIndex_17 (by decide) (fun c17 => ?_) (fun c17 => ?_)
        · have h := md_in c17 h
          refine lv_iinc (v := (l2 + 1)) (lv' := [(2, .int (l2 + 1)), (0, .ref (ad 9 a0)), (1, .int l1)]) cx.1 cx.2.1 dX9_captureIndex_22 hl (k := 2) rfl rfl (by decide) rfl (fun ls hl => ?_)
          refine lv_goto (tgt := 2) cx.1 cx.2.1 dX9_captureIndex_25 (by decide) ?_
          exact ih _ hj σ l1 ((l2 + 1)) q _ _ _ h hw (lv_sub hl [1, 2, 0] rfl) K KR
        · have h := md_ip c17 h
          refine lv_iload_n cx.1 cx.2.1 dX9_captureIndex_20 rfl (lv_at hl 2 rfl) ?_
          exact hp_iret cx hw (cd_ret hj (congrArg some (KR _ (Option.some.inj h).symm))) dX9_captureIndex_21
  obtain ⟨q2, e_q2, h⟩ := md_ob h
  refine L2 n _ hj σ0 a1 0 q2 _ _ _ e_q2 hw (lv_sub hl [1, 2, 0] rfl) (fun t2 hq2 ca hj H locs ls hw hl => ?_) (fun r hr => by subst hr; exact Option.some.inj h)
  subst hq2
  have h := md_inr h
  refine lv_iconst (v := (-1)) cx.1 cx.2.1 dX9_captureIndex_28 (by decide) ?_
  exact hp_iret cx hw (cd_ret hj h) dX9_captureIndex_29
set_option maxHeartbeats 4000000 in
set_option maxRecDepth 100000 in
theorem kc_X9_ownerOf (l : Launch) (D : va_G) (cA : Nat → ClassId) (E : hp_N) (sz : Nat) (ad : Nat → Nat → Nat) (ca0 : Nat → Nat) (hj : cd_inj ad ca0) (oq sgq sgv : Nat) (hE : cd_E E oq sgq sgv) (n : Nat) (σ0 : cd_S) (a0 : Int32) (p : (Int32 × cd_S)) (h : f_X9_ownerOf n σ0 a0 = some p) : Met l yX9_ownerOf (Cond.code yX9_ownerOf cX9_ownerOf 1 (some .int) :: v_CLS) ({ frames := 0, cells := 0, slots := 0, locals := 0 }) (hp_Pc D vwCl (hp_Tl cA) E sz (cd_pic cA ad ca0 σ0) [.int a0]) (hp_Qi D vwCl (hp_Tl cA) sz (cd_pic cA ad ca0 σ0) (fun r u => r = p.1 ∧ ∃ ca1, cd_inj ad ca1 ∧ u = cd_pic cA ad ca1 p.2)) 0 0 (hp_A (cd_pic cA ad ca0 σ0) sz) := by
  refine hp_ofW (cc := cX9_ownerOf) (maxL := 1) (ret := (some .int)) (by decide) rfl (Nat.le_of_ble_eq_true rfl) ?_
  intro pp ee ss mm bb mt cd ls cx hsz hw hl
  have hl : lv_has ls 1 [(0, .int a0)] := hl
  refine lv_iload_n cx.1 cx.2.1 dX9_ownerOf_0 rfl (lv_at hl 0 rfl) ?_
  refine lv_sipush (v := 1024) cx.1 cx.2.1 dX9_ownerOf_1 (by decide) ?_
  refine lv_idiv cx.1 cx.2.1 dX9_ownerOf_4 (by decide) ?_
  exact hp_iret cx hw (cd_ret hj h) dX9_ownerOf_5
set_option maxHeartbeats 4000000 in
set_option maxRecDepth 100000 in
theorem kc_X9_localOf (l : Launch) (D : va_G) (cA : Nat → ClassId) (E : hp_N) (sz : Nat) (ad : Nat → Nat → Nat) (ca0 : Nat → Nat) (hj : cd_inj ad ca0) (oq sgq sgv : Nat) (hE : cd_E E oq sgq sgv) (n : Nat) (σ0 : cd_S) (a0 : Nat) (a1 : Int32) (hb_a0 : a0 < 60) (p : (Int32 × cd_S)) (h : f_X9_localOf n σ0 a0 a1 = some p) : Met l yX9_localOf (Cond.code yX9_localOf cX9_localOf 2 (some .int) :: v_CLS) ({ frames := 1, cells := 0, slots := 0, locals := 22 }) (hp_Pc D vwCl (hp_Tl cA) E sz (cd_pic cA ad ca0 σ0) [.ref (ad 9 a0), .int a1]) (hp_Qi D vwCl (hp_Tl cA) sz (cd_pic cA ad ca0 σ0) (fun r u => r = p.1 ∧ ∃ ca1, cd_inj ad ca1 ∧ u = cd_pic cA ad ca1 p.2)) 0 0 (hp_A (cd_pic cA ad ca0 σ0) sz) := by
  refine hp_ofW (cc := cX9_localOf) (maxL := 2) (ret := (some .int)) (by decide) rfl (Nat.le_of_ble_eq_true rfl) ?_
  intro pp ee ss mm bb mt cd ls cx hsz hw hl
  have hl : lv_has ls 2 [(0, .ref (ad 9 a0)), (1, .int a1)] := hl
  refine lv_iload_n cx.1 cx.2.1 dX9_localOf_0 rfl (lv_at hl 1 rfl) ?_
  obtain ⟨p1, e_p1, h⟩ := md_ob h
  refine hp_callSi (As := [.int a1]) (rest := []) cx hw (kc_X9_ownerOf l D cA E _ ad _ hj oq sgq sgv hE n σ0 a1 p1 e_p1) (cwS 1 cx.2.2.2.2.2.1 (cd_giS cm_578 cm_579 cm_114 cm_580) rfl rfl rfl hdc_X9_ownerOf ⟨Nat.le_of_ble_eq_true rfl, Nat.le_of_ble_eq_true rfl⟩) rfl hl.1 rfl (Nat.le_of_ble_eq_true rfl) dX9_localOf_1 ⟨Nat.le_refl _, Nat.le_refl _⟩ (fun r u H locs hp hw => ?_)
  obtain ⟨rfl, ca, hj, rfl⟩ := hp
  refine lv_aload_n cx.1 cx.2.1 dX9_localOf_4 rfl (lv_at hl 0 rfl) ?_
  refine cd_gI (o := 9) (k := 0) (f := 288) hj cx hw hic9 rfl ⟨by decide, rfl, by decide, rfl⟩ rfl (show _ < 60 by omega) (List.mem_cons_of_mem _ cm_533) dX9_localOf_5 ?_
  refine lv_icmp_ne (tgt := 24) cx.1 cx.2.1 dX9_localOf_8 (by decide) (fun c8 => ?_) (fun c8 => ?_)
  · have h := md_in c8 h
    refine lv_aload_n cx.1 cx.2.1 dX9_localOf_24 rfl (lv_at hl 0 rfl) ?_
    refine lv_iload_n cx.1 cx.2.1 dX9_localOf_25 rfl (lv_at hl 1 rfl) ?_
    obtain ⟨p2, e_p2, h⟩ := md_ob h
    refine hp_callVi (As := [.int a1]) (rest := []) cx hw (kc_X9_captureIndex l D cA E _ ad _ hj oq sgq sgv hE n p1.2 a0 a1 (show _ < 60 by omega) p2 e_p2) (cwV 1 cx.2.2.2.2.2.1 (cd_giV cm_581 cm_582 cm_583 cm_114 cm_584) rfl rfl rfl hdc_X9_captureIndex ⟨Nat.le_of_ble_eq_true rfl, Nat.le_of_ble_eq_true rfl⟩) (cd_atO hj (by decide) (show _ < 60 by omega)) rfl rfl hl.1 rfl (Nat.le_of_ble_eq_true rfl) dX9_localOf_26 ⟨Nat.le_refl _, Nat.le_refl _⟩ (fun r u H locs hp hw => ?_)
    obtain ⟨rfl, ca, hj, rfl⟩ := hp
    exact hp_iret cx hw (cd_ret hj h) dX9_localOf_29
  · have h := md_ip c8 h
    refine lv_aload_n cx.1 cx.2.1 dX9_localOf_11 rfl (lv_at hl 0 rfl) ?_
    refine cd_gI (o := 9) (k := 11) (f := 299) hj cx hw hic9 rfl ⟨by decide, rfl, by decide, rfl⟩ rfl (show _ < 60 by omega) (List.mem_cons_of_mem _ cm_97) dX9_localOf_12 ?_
    refine lv_iload_n cx.1 cx.2.1 dX9_localOf_15 rfl (lv_at hl 1 rfl) ?_
    refine lv_sipush (v := 1024) cx.1 cx.2.1 dX9_localOf_16 (by decide) ?_
    refine lv_irem cx.1 cx.2.1 dX9_localOf_19 (by decide) ?_
    refine lv_iadd cx.1 cx.2.1 dX9_localOf_20 ?_
    refine lv_goto (tgt := 29) cx.1 cx.2.1 dX9_localOf_21 (by decide) ?_
    exact hp_iret cx hw (cd_ret hj h) dX9_localOf_29
set_option maxHeartbeats 4000000 in
set_option maxRecDepth 100000 in
theorem kc_X9_operandOf (l : Launch) (D : va_G) (cA : Nat → ClassId) (E : hp_N) (sz : Nat) (ad : Nat → Nat → Nat) (ca0 : Nat → Nat) (hj : cd_inj ad ca0) (oq sgq sgv : Nat) (hE : cd_E E oq sgq sgv) (n : Nat) (σ0 : cd_S) (a0 : Nat) (a1 : Int32) (a2 : Int32) (hb_a0 : a0 < 60) (p : (Int32 × cd_S)) (h : f_X9_operandOf n σ0 a0 a1 a2 = some p) : Met l yX9_operandOf (Cond.code yX9_operandOf cX9_operandOf 4 (some .int) :: v_CLS) ({ frames := 2, cells := 0, slots := 0, locals := 43 }) (hp_Pc D vwCl (hp_Tl cA) E sz (cd_pic cA ad ca0 σ0) [.ref (ad 9 a0), .int a1, .int a2, .ref (ad 179 0)]) (hp_Qi D vwCl (hp_Tl cA) sz (cd_pic cA ad ca0 σ0) (fun r u => r = p.1 ∧ ∃ ca1, cd_inj ad ca1 ∧ u = cd_pic cA ad ca1 p.2)) 0 0 (hp_A (cd_pic cA ad ca0 σ0) sz) := by
  refine hp_ofW (cc := cX9_operandOf) (maxL := 4) (ret := (some .int)) (by decide) rfl (Nat.le_of_ble_eq_true rfl) ?_
  intro pp ee ss mm bb mt cd ls cx hsz hw hl
  have hl : lv_has ls 4 [(0, .ref (ad 9 a0)), (1, .int a1), (2, .int a2), (3, .ref (ad 179 0))] := hl
  have J34 : ∀ (ca : Nat → Nat) (hj : cd_inj ad ca) (σ : cd_S) (l2 : Int32) (H : Heap) (locs : List Loc) (ls : Array Slot), f_X9_operandOf_J34 n a0 σ l2 = some p → hp_w D vwCl (hp_Tl cA) E (hp_A (cd_pic cA ad ca0 σ0) sz) ss H locs (cd_pic cA ad ca σ) → lv_has ls 4 [(2, .int l2), (3, .ref (ad 179 0))] → W pp l ee ({ frames := 2, cells := 0, slots := 0, locals := 43 }) ss mm [.ref (ad 9 a0), .int a1, .int a2, .ref (ad 179 0)].toArray bb mt cd H locs 0 0 (MQ bb (hp_Qi D vwCl (hp_Tl cA) sz (cd_pic cA ad ca0 σ0) (fun r u => r = p.1 ∧ ∃ ca1, cd_inj ad ca1 ∧ u = cd_pic cA ad ca1 p.2)) [.ref (ad 9 a0), .int a1, .int a2, .ref (ad 179 0)].toArray ss 0 0 (hp_A (cd_pic cA ad ca0 σ0) sz)) (F0 mm 34 ls []) := by
    intro ca hj σ l2 H locs ls h hw hl
    refine lv_iload_n cx.1 cx.2.1 dX9_operandOf_34 rfl (lv_at hl 0 rfl) ?_
    refine lv_if_lt (tgt := 50) cx.1 cx.2.1 dX9_operandOf_35 (by decide) (fun c35 => ?_) (fun c35 => ?_)
    · have h := md_ip c35 h
      refine lv_iconst (v := 0) cx.1 cx.2.1 dX9_operandOf_50 (by decide) ?_
      exact hp_iret cx hw (cd_ret hj h) dX9_operandOf_51
    · have h := md_in c35 h
      refine lv_iload_n cx.1 cx.2.1 dX9_operandOf_38 rfl (lv_at hl 0 rfl) ?_
      refine lv_aload_n cx.1 cx.2.1 dX9_operandOf_39 rfl (lv_at hl 1 rfl) ?_
      refine cd_len (f := 79) (v := 400) hj cx hw (by decide) (by decide) (by decide) (by decide) (by decide) rfl dX9_operandOf_40 ?_
      refine lv_icmp_ge (tgt := 50) cx.1 cx.2.1 dX9_operandOf_41 (by decide) (fun c41 => ?_) (fun c41 => ?_)
      · have h := md_ip c41 h
        refine lv_iconst (v := 0) cx.1 cx.2.1 dX9_operandOf_50 (by decide) ?_
        exact hp_iret cx hw (cd_ret hj h) dX9_operandOf_51
      · have h := md_in c41 h
        refine lv_aload_n cx.1 cx.2.1 dX9_operandOf_44 rfl (lv_at hl 1 rfl) ?_
        refine lv_iload_n cx.1 cx.2.1 dX9_operandOf_45 rfl (lv_at hl 0 rfl) ?_
        obtain ⟨v1, e_v1, h⟩ := md_ob h
        refine cd_lI (f := 79) hj cx hw (by decide) (by decide) rfl e_v1 dX9_operandOf_46 ?_
        refine lv_goto (tgt := 51) cx.1 cx.2.1 dX9_operandOf_47 (by decide) ?_
        exact hp_iret cx hw (cd_ret hj h) dX9_operandOf_51
  have J10 : ∀ (ca : Nat → Nat) (hj : cd_inj ad ca) (σ : cd_S) (l2 : Int32) (H : Heap) (locs : List Loc) (ls : Array Slot), f_X9_operandOf_J10 n a0 σ l2 = some p → hp_w D vwCl (hp_Tl cA) E (hp_A (cd_pic cA ad ca0 σ0) sz) ss H locs (cd_pic cA ad ca σ) → lv_has ls 4 [(0, .ref (ad 9 a0)), (2, .int l2)] → W pp l ee ({ frames := 2, cells := 0, slots := 0, locals := 43 }) ss mm [.ref (ad 9 a0), .int a1, .int a2, .ref (ad 179 0)].toArray bb mt cd H locs 0 0 (MQ bb (hp_Qi D vwCl (hp_Tl cA) sz (cd_pic cA ad ca0 σ0) (fun r u => r = p.1 ∧ ∃ ca1, cd_inj ad ca1 ∧ u = cd_pic cA ad ca1 p.2)) [.ref (ad 9 a0), .int a1, .int a2, .ref (ad 179 0)].toArray ss 0 0 (hp_A (cd_pic cA ad ca0 σ0) sz)) (F0 mm 10 ls []) := by
    intro ca hj σ l2 H locs ls h hw hl
    refine lv_aload_n cx.1 cx.2.1 dX9_operandOf_10 rfl (lv_at hl 0 rfl) ?_
    refine lv_iload_n cx.1 cx.2.1 dX9_operandOf_11 rfl (lv_at hl 1 rfl) ?_
    obtain ⟨p2, e_p2, h⟩ := md_ob h
    refine hp_callVi (As := [.int l2]) (rest := []) cx hw (kc_X9_localOf l D cA E _ ad _ hj oq sgq sgv hE n σ a0 l2 (show _ < 60 by omega) p2 e_p2) (cwV 1 cx.2.2.2.2.2.1 (cd_giV cm_585 cm_586 cm_587 cm_114 cm_588) rfl rfl rfl hdc_X9_localOf ⟨Nat.le_of_ble_eq_true rfl, Nat.le_of_ble_eq_true rfl⟩) (cd_atO hj (by decide) (show _ < 60 by omega)) rfl rfl hl.1 rfl (Nat.le_of_ble_eq_true rfl) dX9_operandOf_12 ⟨Nat.le_refl _, Nat.le_refl _⟩ (fun r u H locs hp hw => ?_)
    obtain ⟨rfl, ca, hj, rfl⟩ := hp
    exact hp_iret cx hw (cd_ret hj h) dX9_operandOf_15
  refine lv_iload_n cx.1 cx.2.1 dX9_operandOf_0 rfl (lv_at hl 1 rfl) ?_
  refine lv_iconst (v := 2) cx.1 cx.2.1 dX9_operandOf_1 (by decide) ?_
  refine lv_icmp_eq (tgt := 10) cx.1 cx.2.1 dX9_operandOf_2 (by decide) (fun c2 => ?_) (fun c2 => ?_)
  · have h := md_ip c2 h
    exact J10 _ hj σ0 a2 _ _ _ h hw (lv_sub hl [0, 2] rfl)
  · have h := md_in c2 h
    refine lv_iload_n cx.1 cx.2.1 dX9_operandOf_5 rfl (lv_at hl 1 rfl) ?_
    refine lv_iconst (v := 3) cx.1 cx.2.1 dX9_operandOf_6 (by decide) ?_
    refine lv_icmp_ne (tgt := 16) cx.1 cx.2.1 dX9_operandOf_7 (by decide) (fun c7 => ?_) (fun c7 => ?_)
    · have h := md_in c7 h
      refine lv_iload_n cx.1 cx.2.1 dX9_operandOf_16 rfl (lv_at hl 1 rfl) ?_
      refine lv_bipush (v := 17) cx.1 cx.2.1 dX9_operandOf_17 (by decide) ?_
      refine lv_icmp_eq (tgt := 34) cx.1 cx.2.1 dX9_operandOf_19 (by decide) (fun c19 => ?_) (fun c19 => ?_)
      · have h := md_ip c19 h
        exact J34 _ hj σ0 a2 _ _ _ h hw (lv_sub hl [2, 3] rfl)
      · have h := md_in c19 h
        refine lv_iload_n cx.1 cx.2.1 dX9_operandOf_22 rfl (lv_at hl 1 rfl) ?_
        refine lv_bipush (v := 18) cx.1 cx.2.1 dX9_operandOf_23 (by decide) ?_
        refine lv_icmp_eq (tgt := 34) cx.1 cx.2.1 dX9_operandOf_25 (by decide) (fun c25 => ?_) (fun c25 => ?_)
        · have h := md_ip c25 h
          exact J34 _ hj σ0 a2 _ _ _ h hw (lv_sub hl [2, 3] rfl)
        · have h := md_in c25 h
          refine lv_iload_n cx.1 cx.2.1 dX9_operandOf_28 rfl (lv_at hl 1 rfl) ?_
          refine lv_bipush (v := 19) cx.1 cx.2.1 dX9_operandOf_29 (by decide) ?_
          refine lv_icmp_ne (tgt := 52) cx.1 cx.2.1 dX9_operandOf_31 (by decide) (fun c31 => ?_) (fun c31 => ?_)
          · have h := md_in c31 h
            refine lv_iload_n cx.1 cx.2.1 dX9_operandOf_52 rfl (lv_at hl 2 rfl) ?_
            exact hp_iret cx hw (cd_ret hj h) dX9_operandOf_53
          · have h := md_ip c31 h
            exact J34 _ hj σ0 a2 _ _ _ h hw (lv_sub hl [2, 3] rfl)
    · have h := md_ip c7 h
      exact J10 _ hj σ0 a2 _ _ _ h hw (lv_sub hl [0, 2] rfl)
set_option maxHeartbeats 4000000 in
set_option maxRecDepth 100000 in
theorem kc_X9_second (l : Launch) (D : va_G) (cA : Nat → ClassId) (E : hp_N) (sz : Nat) (ad : Nat → Nat → Nat) (ca0 : Nat → Nat) (hj : cd_inj ad ca0) (oq sgq sgv : Nat) (hE : cd_E E oq sgq sgv) (n : Nat) (σ0 : cd_S) (a0 : Nat) (a1 : Int32) (hb_a0 : a0 < 60) (p : (Int32 × cd_S)) (h : f_X9_second n σ0 a0 a1 = some p) : Met l yX9_second (Cond.code yX9_second cX9_second 2 (some .int) :: v_CLS) ({ frames := 1, cells := 0, slots := 0, locals := 21 }) (hp_Pc D vwCl (hp_Tl cA) E sz (cd_pic cA ad ca0 σ0) [.ref (ad 9 a0), .int a1]) (hp_Qi D vwCl (hp_Tl cA) sz (cd_pic cA ad ca0 σ0) (fun r u => r = p.1 ∧ ∃ ca1, cd_inj ad ca1 ∧ u = cd_pic cA ad ca1 p.2)) 0 0 (hp_A (cd_pic cA ad ca0 σ0) sz) := by
  refine hp_ofW (cc := cX9_second) (maxL := 2) (ret := (some .int)) (by decide) rfl (Nat.le_of_ble_eq_true rfl) ?_
  intro pp ee ss mm bb mt cd ls cx hsz hw hl
  have hl : lv_has ls 2 [(0, .ref (ad 9 a0)), (1, .int a1)] := hl
  refine lv_aload_n cx.1 cx.2.1 dX9_second_0 rfl (lv_at hl 0 rfl) ?_
  refine cd_gO (o2 := 6) (e2 := (17 + 3 * a0)) (o := 9) (k := 15) (f := 303) hj cx hw hic9 rfl ⟨by decide, rfl, by decide, rfl⟩ rfl (show _ < 60 by omega) ⟨rfl, rfl⟩ (List.mem_cons_of_mem _ cm_543) dX9_second_1 ?_
  refine lv_iload_n cx.1 cx.2.1 dX9_second_4 rfl (lv_at hl 1 rfl) ?_
  refine lv_iconst (v := 3) cx.1 cx.2.1 dX9_second_5 (by decide) ?_
  refine lv_imul cx.1 cx.2.1 dX9_second_6 ?_
  refine lv_iconst (v := 2) cx.1 cx.2.1 dX9_second_7 (by decide) ?_
  refine lv_iadd cx.1 cx.2.1 dX9_second_8 ?_
  obtain ⟨p1, e_p1, h⟩ := md_ob h
  refine hp_callVi (As := [.int ((a1 * 3) + 2)]) (rest := []) cx hw (kc_X6_at l D cA E _ ad _ hj oq sgq sgv hE n σ0 ((17 + 3 * a0)) (((a1 * 3) + 2)) (show _ < 197 by omega) p1 e_p1) (cwV 1 cx.2.2.2.2.2.1 (cd_giV cm_576 cm_17 cm_18 cm_5 cm_19) rfl rfl rfl hdc_X6_at ⟨Nat.le_of_ble_eq_true rfl, Nat.le_of_ble_eq_true rfl⟩) (cd_atO hj (by decide) (show _ < 197 by omega)) rfl rfl hl.1 rfl (Nat.le_of_ble_eq_true rfl) dX9_second_9 ⟨Nat.le_refl _, Nat.le_refl _⟩ (fun r u H locs hp hw => ?_)
  obtain ⟨rfl, ca, hj, rfl⟩ := hp
  exact hp_iret cx hw (cd_ret hj h) dX9_second_12
set_option maxHeartbeats 4000000 in
set_option maxRecDepth 100000 in
theorem kc_X9_what (l : Launch) (D : va_G) (cA : Nat → ClassId) (E : hp_N) (sz : Nat) (ad : Nat → Nat → Nat) (ca0 : Nat → Nat) (hj : cd_inj ad ca0) (oq sgq sgv : Nat) (hE : cd_E E oq sgq sgv) (n : Nat) (σ0 : cd_S) (a0 : Nat) (a1 : Int32) (hb_a0 : a0 < 60) (p : (Int32 × cd_S)) (h : f_X9_what n σ0 a0 a1 = some p) : Met l yX9_what (Cond.code yX9_what cX9_what 2 (some .int) :: v_CLS) ({ frames := 1, cells := 0, slots := 0, locals := 21 }) (hp_Pc D vwCl (hp_Tl cA) E sz (cd_pic cA ad ca0 σ0) [.ref (ad 9 a0), .int a1]) (hp_Qi D vwCl (hp_Tl cA) sz (cd_pic cA ad ca0 σ0) (fun r u => r = p.1 ∧ ∃ ca1, cd_inj ad ca1 ∧ u = cd_pic cA ad ca1 p.2)) 0 0 (hp_A (cd_pic cA ad ca0 σ0) sz) := by
  refine hp_ofW (cc := cX9_what) (maxL := 2) (ret := (some .int)) (by decide) rfl (Nat.le_of_ble_eq_true rfl) ?_
  intro pp ee ss mm bb mt cd ls cx hsz hw hl
  have hl : lv_has ls 2 [(0, .ref (ad 9 a0)), (1, .int a1)] := hl
  refine lv_aload_n cx.1 cx.2.1 dX9_what_0 rfl (lv_at hl 0 rfl) ?_
  refine cd_gO (o2 := 6) (e2 := (17 + 3 * a0)) (o := 9) (k := 15) (f := 303) hj cx hw hic9 rfl ⟨by decide, rfl, by decide, rfl⟩ rfl (show _ < 60 by omega) ⟨rfl, rfl⟩ (List.mem_cons_of_mem _ cm_543) dX9_what_1 ?_
  refine lv_iload_n cx.1 cx.2.1 dX9_what_4 rfl (lv_at hl 1 rfl) ?_
  refine lv_iconst (v := 3) cx.1 cx.2.1 dX9_what_5 (by decide) ?_
  refine lv_imul cx.1 cx.2.1 dX9_what_6 ?_
  obtain ⟨p1, e_p1, h⟩ := md_ob h
  refine hp_callVi (As := [.int (a1 * 3)]) (rest := []) cx hw (kc_X6_at l D cA E _ ad _ hj oq sgq sgv hE n σ0 ((17 + 3 * a0)) ((a1 * 3)) (show _ < 197 by omega) p1 e_p1) (cwV 1 cx.2.2.2.2.2.1 (cd_giV cm_576 cm_17 cm_18 cm_5 cm_19) rfl rfl rfl hdc_X6_at ⟨Nat.le_of_ble_eq_true rfl, Nat.le_of_ble_eq_true rfl⟩) (cd_atO hj (by decide) (show _ < 197 by omega)) rfl rfl hl.1 rfl (Nat.le_of_ble_eq_true rfl) dX9_what_7 ⟨Nat.le_refl _, Nat.le_refl _⟩ (fun r u H locs hp hw => ?_)
  obtain ⟨rfl, ca, hj, rfl⟩ := hp
  exact hp_iret cx hw (cd_ret hj h) dX9_what_10
set_option maxHeartbeats 4000000 in
set_option maxRecDepth 100000 in
theorem kc_X9_writeOne (l : Launch) (D : va_G) (cA : Nat → ClassId) (E : hp_N) (sz : Nat) (ad : Nat → Nat → Nat) (ca0 : Nat → Nat) (hj : cd_inj ad ca0) (oq sgq sgv : Nat) (hE : cd_E E oq sgq sgv) (n : Nat) (σ0 : cd_S) (b0 : cd_B) (a0 : Nat) (a2 : Nat) (a3 : Int32) (hb_a0 : a0 < 60) (hb_a2 : a2 < 197) (p : (Int32 × cd_S × cd_B)) (h : f_X9_writeOne n σ0 b0 a0 a2 a3 = some p) : (p.2.2.1 ≤ b0.1 ∧ p.2.2.2 ≤ b0.2) ∧ Met l yX9_writeOne (Cond.code yX9_writeOne cX9_writeOne 9 none :: v_CLS) ({ frames := 5, cells := b0.1 - p.2.2.1, slots := b0.2 - p.2.2.2, locals := 132 }) (hp_Pc D vwCl (hp_Tl cA) E sz (cd_pic cA ad ca0 σ0) [.ref (ad 9 a0), .ref (ad 2 0), .ref (ad 6 a2), .int a3, .ref (ad 179 0)]) (hp_Qv D vwCl (hp_Tl cA) sz (cd_pic cA ad ca0 σ0) (fun u => ∃ ca1, cd_inj ad ca1 ∧ u = cd_pic cA ad ca1 p.2.1)) (b0.1 - p.2.2.1) (b0.2 - p.2.2.2) (hp_A (cd_pic cA ad ca0 σ0) sz) := by
  obtain ⟨hm0, hn0, h⟩ := cd_cks h
  have hM0 : p.2.2.1 ≤ b0.1 ∧ p.2.2.2 ≤ b0.2 := ⟨hm0, hn0⟩
  refine ⟨hM0, ?_⟩
  refine hp_ofW (cc := cX9_writeOne) (maxL := 9) (ret := none) (by decide) rfl (Nat.le_of_ble_eq_true rfl) ?_
  intro pp ee ss mm bb mt cd ls cx hsz hw hl
  have hl : lv_has ls 9 [(0, .ref (ad 9 a0)), (1, .ref (ad 2 0)), (2, .ref (ad 6 a2)), (3, .int a3), (4, .ref (ad 179 0))] := hl
  refine W.widen (k := b0.1 - b0.1) (n := b0.2 - b0.2) (Nat.zero_le _) (Nat.zero_le _) ?_
  have J181 : ∀ (ca : Nat → Nat) (hj : cd_inj ad ca) (σ : cd_S) (b : cd_B) (l3 : Int32) (l8 : Int32) (H : Heap) (locs : List Loc) (ls : Array Slot), b.1 ≤ b0.1 → b.2 ≤ b0.2 → p.2.2.1 ≤ b.1 → p.2.2.2 ≤ b.2 → f_X9_writeOne_J181 n a0 a2 σ b l3 l8 = some p → hp_w D vwCl (hp_Tl cA) E (hp_A (cd_pic cA ad ca0 σ0) sz) ss H locs (cd_pic cA ad ca σ) → lv_has ls 9 [(0, .ref (ad 9 a0)), (2, .ref (ad 6 a2)), (3, .int l3), (8, .int l8)] → W pp l ee ({ frames := 5, cells := b0.1 - p.2.2.1, slots := b0.2 - p.2.2.2, locals := 132 }) ss mm [.ref (ad 9 a0), .ref (ad 2 0), .ref (ad 6 a2), .int a3, .ref (ad 179 0)].toArray bb mt cd H locs (b0.1 - b.1) (b0.2 - b.2) (MQ bb (hp_Qv D vwCl (hp_Tl cA) sz (cd_pic cA ad ca0 σ0) (fun u => ∃ ca1, cd_inj ad ca1 ∧ u = cd_pic cA ad ca1 p.2.1)) [.ref (ad 9 a0), .ref (ad 2 0), .ref (ad 6 a2), .int a3, .ref (ad 179 0)].toArray ss (b0.1 - p.2.2.1) (b0.2 - p.2.2.2) (hp_A (cd_pic cA ad ca0 σ0) sz)) (F0 mm 181 ls []) := by
    intro ca hj σ b l3 l8 H locs ls hb1 hb2 hf1 hf2 h hw hl
    refine lv_iload cx.1 cx.2.1 dX9_writeOne_181 (lv_at hl 3 rfl) ?_
    refine lv_iconst (v := 1) cx.1 cx.2.1 dX9_writeOne_183 (by decide) ?_
    refine lv_icmp_le (tgt := 196) cx.1 cx.2.1 dX9_writeOne_184 (by decide) (fun c184 => ?_) (fun c184 => ?_)
    · have h := md_ip c184 h
      exact hp_vret cx hw ((cd_retb hj h).2) dX9_writeOne_196 (cd_le1 h) (cd_le2 h)
    · have h := md_in c184 h
      refine lv_aload_n cx.1 cx.2.1 dX9_writeOne_187 rfl (lv_at hl 1 rfl) ?_
      refine lv_aload_n cx.1 cx.2.1 dX9_writeOne_188 rfl (lv_at hl 0 rfl) ?_
      refine lv_iload_n cx.1 cx.2.1 dX9_writeOne_189 rfl (lv_at hl 2 rfl) ?_
      obtain ⟨p1, e_p1, h⟩ := md_ob h
      refine hp_callVi (As := [.int l3]) (rest := [.ref (ad 6 a2)]) cx hw (kc_X9_second l D cA E _ ad _ hj oq sgq sgv hE n σ a0 l3 (show _ < 60 by omega) p1 e_p1) (cwV 1 cx.2.2.2.2.2.1 (cd_giV cm_598 cm_599 cm_600 cm_114 cm_601) rfl rfl rfl hdc_X9_second ⟨Nat.le_of_ble_eq_true rfl, Nat.le_of_ble_eq_true rfl⟩) (cd_atO hj (by decide) (show _ < 60 by omega)) rfl rfl hl.1 rfl (Nat.le_of_ble_eq_true rfl) dX9_writeOne_190 ⟨by (try dsimp only); omega, by (try dsimp only); omega⟩ (fun r u H locs hp hw => ?_)
      obtain ⟨rfl, ca, hj, rfl⟩ := hp
      obtain ⟨p2, e_p2, h⟩ := md_ob h
      obtain ⟨hm3, hn3, h⟩ := cd_cks h
      have hM3 : p.2.2.1 ≤ p2.2.2.1 ∧ p.2.2.2 ≤ p2.2.2.2 := ⟨hm3, hn3⟩
      have hle2 := (kc_X6_addPair l D cA E sz ad _ hj oq sgq sgv hE n p1.2 b a2 (p1.1) (show _ < 197 by omega) p2 e_p2).1
      refine hp_callVv (As := [.int p1.1]) (rest := []) cx hw ((kc_X6_addPair l D cA E _ ad _ hj oq sgq sgv hE n p1.2 b a2 (p1.1) (show _ < 197 by omega) p2 e_p2).2) (cwV 1 cx.2.2.2.2.2.1 (cd_giV cm_572 cm_573 cm_574 cm_5 cm_575) rfl rfl rfl hdc_X6_addPair ⟨Nat.le_of_ble_eq_true rfl, Nat.le_of_ble_eq_true rfl⟩) (cd_atO hj (by decide) (show _ < 197 by omega)) rfl rfl hl.1 rfl (Nat.le_of_ble_eq_true rfl) dX9_writeOne_193 ⟨by (try dsimp only); omega, by (try dsimp only); omega⟩ (fun u H locs hp hw => ?_)
      obtain ⟨ca, hj, rfl⟩ := hp
      refine W.widen (k := b0.1 - p2.2.2.1) (n := b0.2 - p2.2.2.2) (by omega) (by omega) ?_
      exact hp_vret cx hw ((cd_retb hj h).2) dX9_writeOne_196 (cd_le1 h) (cd_le2 h)
  have J160 : ∀ (ca : Nat → Nat) (hj : cd_inj ad ca) (σ : cd_S) (b : cd_B) (l3 : Int32) (l5 : Int32) (l6 : Int32) (t0 : Int32) (H : Heap) (locs : List Loc) (ls : Array Slot), b.1 ≤ b0.1 → b.2 ≤ b0.2 → p.2.2.1 ≤ b.1 → p.2.2.2 ≤ b.2 → f_X9_writeOne_J160 n a0 a2 σ b l3 l5 l6 t0 = some p → hp_w D vwCl (hp_Tl cA) E (hp_A (cd_pic cA ad ca0 σ0) sz) ss H locs (cd_pic cA ad ca σ) → lv_has ls 9 [(0, .ref (ad 9 a0)), (2, .ref (ad 6 a2)), (3, .int l3), (4, .ref (ad 179 0)), (5, .int l5), (6, .int l6)] → W pp l ee ({ frames := 5, cells := b0.1 - p.2.2.1, slots := b0.2 - p.2.2.2, locals := 132 }) ss mm [.ref (ad 9 a0), .ref (ad 2 0), .ref (ad 6 a2), .int a3, .ref (ad 179 0)].toArray bb mt cd H locs (b0.1 - b.1) (b0.2 - b.2) (MQ bb (hp_Qv D vwCl (hp_Tl cA) sz (cd_pic cA ad ca0 σ0) (fun u => ∃ ca1, cd_inj ad ca1 ∧ u = cd_pic cA ad ca1 p.2.1)) [.ref (ad 9 a0), .ref (ad 2 0), .ref (ad 6 a2), .int a3, .ref (ad 179 0)].toArray ss (b0.1 - p.2.2.1) (b0.2 - p.2.2.2) (hp_A (cd_pic cA ad ca0 σ0) sz)) (F0 mm 160 ls [.int t0]) := by
    intro ca hj σ b l3 l5 l6 t0 H locs ls hb1 hb2 hf1 hf2 h hw hl
    refine lv_istore (lv' := [(8, .int t0), (0, .ref (ad 9 a0)), (2, .ref (ad 6 a2)), (3, .int l3), (4, .ref (ad 179 0)), (5, .int l5), (6, .int l6)]) cx.1 cx.2.1 dX9_writeOne_160 hl (by decide) rfl (fun ls hl => ?_)
    refine lv_iload cx.1 cx.2.1 dX9_writeOne_162 (lv_at hl 0 rfl) ?_
    refine lv_if_le (tgt := 181) cx.1 cx.2.1 dX9_writeOne_164 (by decide) (fun c164 => ?_) (fun c164 => ?_)
    · have h := md_ip c164 h
      exact J181 _ hj σ b l3 t0 _ _ _ (by omega) (by omega) (by omega) (by omega) h hw (lv_sub hl [1, 2, 3, 0] rfl)
    · have h := md_in c164 h
      refine lv_aload_n cx.1 cx.2.1 dX9_writeOne_167 rfl (lv_at hl 2 rfl) ?_
      refine lv_aload_n cx.1 cx.2.1 dX9_writeOne_168 rfl (lv_at hl 1 rfl) ?_
      refine lv_iload cx.1 cx.2.1 dX9_writeOne_169 (lv_at hl 5 rfl) ?_
      refine lv_iload cx.1 cx.2.1 dX9_writeOne_171 (lv_at hl 6 rfl) ?_
      refine lv_aload cx.1 cx.2.1 dX9_writeOne_173 (lv_at hl 4 rfl) ?_
      obtain ⟨p4, e_p4, h⟩ := md_ob h
      refine hp_callVi (As := [.int l5, .int l6, .ref (ad 179 0)]) (rest := [.ref (ad 6 a2)]) cx hw (kc_X9_operandOf l D cA E _ ad _ hj oq sgq sgv hE n σ a0 l5 l6 (show _ < 60 by omega) p4 e_p4) (cwV 3 cx.2.2.2.2.2.1 (cd_giV cm_609 cm_610 cm_611 cm_114 cm_612) rfl rfl rfl hdc_X9_operandOf ⟨Nat.le_of_ble_eq_true rfl, Nat.le_of_ble_eq_true rfl⟩) (cd_atO hj (by decide) (show _ < 60 by omega)) rfl rfl hl.1 rfl (Nat.le_of_ble_eq_true rfl) dX9_writeOne_175 ⟨by (try dsimp only); omega, by (try dsimp only); omega⟩ (fun r u H locs hp hw => ?_)
      obtain ⟨rfl, ca, hj, rfl⟩ := hp
      obtain ⟨p5, e_p5, h⟩ := md_ob h
      obtain ⟨hm6, hn6, h⟩ := cd_cks h
      have hM6 : p.2.2.1 ≤ p5.2.2.1 ∧ p.2.2.2 ≤ p5.2.2.2 := ⟨hm6, hn6⟩
      have hle5 := (kc_X6_addPair l D cA E sz ad _ hj oq sgq sgv hE n p4.2 b a2 (p4.1) (show _ < 197 by omega) p5 e_p5).1
      refine hp_callVv (As := [.int p4.1]) (rest := []) cx hw ((kc_X6_addPair l D cA E _ ad _ hj oq sgq sgv hE n p4.2 b a2 (p4.1) (show _ < 197 by omega) p5 e_p5).2) (cwV 1 cx.2.2.2.2.2.1 (cd_giV cm_572 cm_573 cm_574 cm_5 cm_575) rfl rfl rfl hdc_X6_addPair ⟨Nat.le_of_ble_eq_true rfl, Nat.le_of_ble_eq_true rfl⟩) (cd_atO hj (by decide) (show _ < 197 by omega)) rfl rfl hl.1 rfl (Nat.le_of_ble_eq_true rfl) dX9_writeOne_178 ⟨by (try dsimp only); omega, by (try dsimp only); omega⟩ (fun u H locs hp hw => ?_)
      obtain ⟨ca, hj, rfl⟩ := hp
      refine W.widen (k := b0.1 - p5.2.2.1) (n := b0.2 - p5.2.2.2) (by omega) (by omega) ?_
      exact J181 _ hj p5.2.1 (p5.2.2) l3 t0 _ _ _ (by omega) (by omega) (by omega) (by omega) h hw (lv_sub hl [1, 2, 3, 0] rfl)
  have J159 : ∀ (ca : Nat → Nat) (hj : cd_inj ad ca) (σ : cd_S) (b : cd_B) (l3 : Int32) (l5 : Int32) (l6 : Int32) (H : Heap) (locs : List Loc) (ls : Array Slot), b.1 ≤ b0.1 → b.2 ≤ b0.2 → p.2.2.1 ≤ b.1 → p.2.2.2 ≤ b.2 → f_X9_writeOne_J159 n a0 a2 σ b l3 l5 l6 = some p → hp_w D vwCl (hp_Tl cA) E (hp_A (cd_pic cA ad ca0 σ0) sz) ss H locs (cd_pic cA ad ca σ) → lv_has ls 9 [(0, .ref (ad 9 a0)), (2, .ref (ad 6 a2)), (3, .int l3), (4, .ref (ad 179 0)), (5, .int l5), (6, .int l6)] → W pp l ee ({ frames := 5, cells := b0.1 - p.2.2.1, slots := b0.2 - p.2.2.2, locals := 132 }) ss mm [.ref (ad 9 a0), .ref (ad 2 0), .ref (ad 6 a2), .int a3, .ref (ad 179 0)].toArray bb mt cd H locs (b0.1 - b.1) (b0.2 - b.2) (MQ bb (hp_Qv D vwCl (hp_Tl cA) sz (cd_pic cA ad ca0 σ0) (fun u => ∃ ca1, cd_inj ad ca1 ∧ u = cd_pic cA ad ca1 p.2.1)) [.ref (ad 9 a0), .ref (ad 2 0), .ref (ad 6 a2), .int a3, .ref (ad 179 0)].toArray ss (b0.1 - p.2.2.1) (b0.2 - p.2.2.2) (hp_A (cd_pic cA ad ca0 σ0) sz)) (F0 mm 159 ls []) := by
    intro ca hj σ b l3 l5 l6 H locs ls hb1 hb2 hf1 hf2 h hw hl
    refine lv_iconst (v := 0) cx.1 cx.2.1 dX9_writeOne_159 (by decide) ?_
    exact J160 _ hj σ b l3 l5 l6 0 _ _ _ (by omega) (by omega) (by omega) (by omega) h hw (lv_sub hl [0, 1, 2, 3, 4, 5] rfl)
  have J133 : ∀ (ca : Nat → Nat) (hj : cd_inj ad ca) (σ : cd_S) (b : cd_B) (l3 : Int32) (l5 : Int32) (l6 : Int32) (t0 : Int64) (H : Heap) (locs : List Loc) (ls : Array Slot), b.1 ≤ b0.1 → b.2 ≤ b0.2 → p.2.2.1 ≤ b.1 → p.2.2.2 ≤ b.2 → f_X9_writeOne_J133 n a0 a2 σ b l3 l5 l6 t0 = some p → hp_w D vwCl (hp_Tl cA) E (hp_A (cd_pic cA ad ca0 σ0) sz) ss H locs (cd_pic cA ad ca σ) → lv_has ls 9 [(0, .ref (ad 9 a0)), (2, .ref (ad 6 a2)), (3, .int l3), (4, .ref (ad 179 0)), (5, .int l5), (6, .int l6)] → W pp l ee ({ frames := 5, cells := b0.1 - p.2.2.1, slots := b0.2 - p.2.2.2, locals := 132 }) ss mm [.ref (ad 9 a0), .ref (ad 2 0), .ref (ad 6 a2), .int a3, .ref (ad 179 0)].toArray bb mt cd H locs (b0.1 - b.1) (b0.2 - b.2) (MQ bb (hp_Qv D vwCl (hp_Tl cA) sz (cd_pic cA ad ca0 σ0) (fun u => ∃ ca1, cd_inj ad ca1 ∧ u = cd_pic cA ad ca1 p.2.1)) [.ref (ad 9 a0), .ref (ad 2 0), .ref (ad 6 a2), .int a3, .ref (ad 179 0)].toArray ss (b0.1 - p.2.2.1) (b0.2 - p.2.2.2) (hp_A (cd_pic cA ad ca0 σ0) sz)) (F0 mm 133 ls [.long t0, .ref (ad 6 a2)]) := by
    intro ca hj σ b l3 l5 l6 t0 H locs ls hb1 hb2 hf1 hf2 h hw hl
    obtain ⟨p7, e_p7, h⟩ := md_ob h
    obtain ⟨hm8, hn8, h⟩ := cd_cks h
    have hM8 : p.2.2.1 ≤ p7.2.2.1 ∧ p.2.2.2 ≤ p7.2.2.2 := ⟨hm8, hn8⟩
    have hle7 := (kc_X6_add l D cA E sz ad _ hj oq sgq sgv hE n σ b a2 t0 (show _ < 197 by omega) p7 e_p7).1
    refine hp_callVv (As := [.long t0]) (rest := []) cx hw ((kc_X6_add l D cA E _ ad _ hj oq sgq sgv hE n σ b a2 t0 (show _ < 197 by omega) p7 e_p7).2) (cwV 1 cx.2.2.2.2.2.1 (cd_giV cm_570 cm_40 cm_41 cm_5 cm_42) rfl rfl rfl hdc_X6_add ⟨Nat.le_of_ble_eq_true rfl, Nat.le_of_ble_eq_true rfl⟩) (cd_atO hj (by decide) (show _ < 197 by omega)) rfl rfl hl.1 rfl (Nat.le_of_ble_eq_true rfl) dX9_writeOne_133 ⟨by (try dsimp only); omega, by (try dsimp only); omega⟩ (fun u H locs hp hw => ?_)
    obtain ⟨ca, hj, rfl⟩ := hp
    refine W.widen (k := b0.1 - p7.2.2.1) (n := b0.2 - p7.2.2.2) (by omega) (by omega) ?_
    refine lv_iload cx.1 cx.2.1 dX9_writeOne_136 (lv_at hl 4 rfl) ?_
    refine lv_if_lt (tgt := 159) cx.1 cx.2.1 dX9_writeOne_138 (by decide) (fun c138 => ?_) (fun c138 => ?_)
    · have h := md_ip c138 h
      exact J159 _ hj p7.2.1 (p7.2.2) l3 l5 l6 _ _ _ (by omega) (by omega) (by omega) (by omega) h hw (lv_sub hl [0, 1, 2, 3, 4, 5] rfl)
    · have h := md_in c138 h
      refine lv_iload cx.1 cx.2.1 dX9_writeOne_141 (lv_at hl 4 rfl) ?_
      refine va_getsN cx.1 cx.2.1 (hE.2.2.1 _ _ _ hw.2.2.2.2.2).1.1 hw.2.1 cx.2.2.2.2.1 (va_Nw.use rfl (hE.2.2.1 _ _ _ hw.2.2.2.2.2).1.2.2) (fun _ h => h) dX9_writeOne_143 ?_
      refine va_tlen (v := 29) cx.1 cx.2.1 (hE.2.2.1 _ _ _ hw.2.2.2.2.2).2 hw.2.1 (by decide) dX9_writeOne_146 ?_
      refine lv_icmp_ge (tgt := 159) cx.1 cx.2.1 dX9_writeOne_147 (by decide) (fun c147 => ?_) (fun c147 => ?_)
      · have h := md_ip c147 h
        exact J159 _ hj p7.2.1 (p7.2.2) l3 l5 l6 _ _ _ (by omega) (by omega) (by omega) (by omega) h hw (lv_sub hl [0, 1, 2, 3, 4, 5] rfl)
      · have h := md_in c147 h
        refine va_getsN cx.1 cx.2.1 (hE.2.2.1 _ _ _ hw.2.2.2.2.2).1.1 hw.2.1 cx.2.2.2.2.1 (va_Nw.use rfl (hE.2.2.1 _ _ _ hw.2.2.2.2.2).1.2.2) (fun _ h => h) dX9_writeOne_150 ?_
        refine lv_iload cx.1 cx.2.1 dX9_writeOne_153 (lv_at hl 4 rfl) ?_
        obtain ⟨v9, e_v9, h⟩ := md_ob h
        refine va_ti (v := .int v9) cx.1 cx.2.1 (hE.2.2.1 _ _ _ hw.2.2.2.2.2).2 hw.2.1 (cd_opls e_v9).1 (cd_opls e_v9).2 dX9_writeOne_155 ?_
        refine lv_goto (tgt := 160) cx.1 cx.2.1 dX9_writeOne_156 (by decide) ?_
        exact J160 _ hj p7.2.1 (p7.2.2) l3 l5 l6 v9 _ _ _ (by omega) (by omega) (by omega) (by omega) h hw (lv_sub hl [0, 1, 2, 3, 4, 5] rfl)
  have J115 : ∀ (ca : Nat → Nat) (hj : cd_inj ad ca) (σ : cd_S) (b : cd_B) (l3 : Int32) (l5 : Int32) (l6 : Int32) (l7 : Int32) (H : Heap) (locs : List Loc) (ls : Array Slot), b.1 ≤ b0.1 → b.2 ≤ b0.2 → p.2.2.1 ≤ b.1 → p.2.2.2 ≤ b.2 → f_X9_writeOne_J115 n a0 a2 σ b l3 l5 l6 l7 = some p → hp_w D vwCl (hp_Tl cA) E (hp_A (cd_pic cA ad ca0 σ0) sz) ss H locs (cd_pic cA ad ca σ) → lv_has ls 9 [(0, .ref (ad 9 a0)), (2, .ref (ad 6 a2)), (3, .int l3), (4, .ref (ad 179 0)), (5, .int l5), (6, .int l6), (7, .int l7)] → W pp l ee ({ frames := 5, cells := b0.1 - p.2.2.1, slots := b0.2 - p.2.2.2, locals := 132 }) ss mm [.ref (ad 9 a0), .ref (ad 2 0), .ref (ad 6 a2), .int a3, .ref (ad 179 0)].toArray bb mt cd H locs (b0.1 - b.1) (b0.2 - b.2) (MQ bb (hp_Qv D vwCl (hp_Tl cA) sz (cd_pic cA ad ca0 σ0) (fun u => ∃ ca1, cd_inj ad ca1 ∧ u = cd_pic cA ad ca1 p.2.1)) [.ref (ad 9 a0), .ref (ad 2 0), .ref (ad 6 a2), .int a3, .ref (ad 179 0)].toArray ss (b0.1 - p.2.2.1) (b0.2 - p.2.2.2) (hp_A (cd_pic cA ad ca0 σ0) sz)) (F0 mm 115 ls []) := by
    intro ca hj σ b l3 l5 l6 l7 H locs ls hb1 hb2 hf1 hf2 h hw hl
    refine lv_aload_n cx.1 cx.2.1 dX9_writeOne_115 rfl (lv_at hl 1 rfl) ?_
    refine lv_iload cx.1 cx.2.1 dX9_writeOne_116 (lv_at hl 6 rfl) ?_
    refine lv_if_eq (tgt := 130) cx.1 cx.2.1 dX9_writeOne_118 (by decide) (fun c118 => ?_) (fun c118 => ?_)
    · have h := md_ip c118 h
      refine lv_iload cx.1 cx.2.1 dX9_writeOne_130 (lv_at hl 4 rfl) ?_
      refine lv_i2l (v := (l5.toInt64)) cx.1 cx.2.1 dX9_writeOne_132 rfl ?_
      exact J133 _ hj σ b l3 l5 l6 ((l5.toInt64)) _ _ _ (by omega) (by omega) (by omega) (by omega) h hw (lv_sub hl [0, 1, 2, 3, 4, 5] rfl)
    · have h := md_in c118 h
      refine lv_iload cx.1 cx.2.1 dX9_writeOne_121 (lv_at hl 4 rfl) ?_
      refine lv_bipush (v := 64) cx.1 cx.2.1 dX9_writeOne_123 (by decide) ?_
      refine lv_iadd cx.1 cx.2.1 dX9_writeOne_125 ?_
      refine lv_i2l (v := ((l5 + 64).toInt64)) cx.1 cx.2.1 dX9_writeOne_126 rfl ?_
      refine lv_goto (tgt := 133) cx.1 cx.2.1 dX9_writeOne_127 (by decide) ?_
      exact J133 _ hj σ b l3 l5 l6 (((l5 + 64).toInt64)) _ _ _ (by omega) (by omega) (by omega) (by omega) h hw (lv_sub hl [0, 1, 2, 3, 4, 5] rfl)
  have J102 : ∀ (ca : Nat → Nat) (hj : cd_inj ad ca) (σ : cd_S) (b : cd_B) (l3 : Int32) (l5 : Int32) (l6 : Int32) (l7 : Int32) (H : Heap) (locs : List Loc) (ls : Array Slot), b.1 ≤ b0.1 → b.2 ≤ b0.2 → p.2.2.1 ≤ b.1 → p.2.2.2 ≤ b.2 → f_X9_writeOne_J102 n a0 a2 σ b l3 l5 l6 l7 = some p → hp_w D vwCl (hp_Tl cA) E (hp_A (cd_pic cA ad ca0 σ0) sz) ss H locs (cd_pic cA ad ca σ) → lv_has ls 9 [(0, .ref (ad 9 a0)), (2, .ref (ad 6 a2)), (3, .int l3), (4, .ref (ad 179 0)), (5, .int l5), (6, .int l6), (7, .int l7)] → W pp l ee ({ frames := 5, cells := b0.1 - p.2.2.1, slots := b0.2 - p.2.2.2, locals := 132 }) ss mm [.ref (ad 9 a0), .ref (ad 2 0), .ref (ad 6 a2), .int a3, .ref (ad 179 0)].toArray bb mt cd H locs (b0.1 - b.1) (b0.2 - b.2) (MQ bb (hp_Qv D vwCl (hp_Tl cA) sz (cd_pic cA ad ca0 σ0) (fun u => ∃ ca1, cd_inj ad ca1 ∧ u = cd_pic cA ad ca1 p.2.1)) [.ref (ad 9 a0), .ref (ad 2 0), .ref (ad 6 a2), .int a3, .ref (ad 179 0)].toArray ss (b0.1 - p.2.2.1) (b0.2 - p.2.2.2) (hp_A (cd_pic cA ad ca0 σ0) sz)) (F0 mm 102 ls []) := by
    intro ca hj σ b l3 l5 l6 l7 H locs ls hb1 hb2 hf1 hf2 h hw hl
    refine lv_iload cx.1 cx.2.1 dX9_writeOne_102 (lv_at hl 4 rfl) ?_
    refine lv_bipush (v := 27) cx.1 cx.2.1 dX9_writeOne_104 (by decide) ?_
    refine lv_icmp_ne (tgt := 115) cx.1 cx.2.1 dX9_writeOne_106 (by decide) (fun c106 => ?_) (fun c106 => ?_)
    · have h := md_in c106 h
      exact J115 _ hj σ b l3 l5 l6 l7 _ _ _ (by omega) (by omega) (by omega) (by omega) h hw (lv_sub hl [0, 1, 2, 3, 4, 5, 6] rfl)
    · have h := md_ip c106 h
      refine lv_iload cx.1 cx.2.1 dX9_writeOne_109 (lv_at hl 6 rfl) ?_
      refine lv_if_eq (tgt := 115) cx.1 cx.2.1 dX9_writeOne_111 (by decide) (fun c111 => ?_) (fun c111 => ?_)
      · have h := md_ip c111 h
        exact J115 _ hj σ b l3 l5 l6 l7 _ _ _ (by omega) (by omega) (by omega) (by omega) h hw (lv_sub hl [0, 1, 2, 3, 4, 5, 6] rfl)
      · have h := md_in c111 h
        exact hp_vret cx hw ((cd_retb hj h).2) dX9_writeOne_114 (cd_le1 h) (cd_le2 h)
  have J50 : ∀ (ca : Nat → Nat) (hj : cd_inj ad ca) (σ : cd_S) (b : cd_B) (l3 : Int32) (l5 : Int32) (l6 : Int32) (t0 : Int32) (H : Heap) (locs : List Loc) (ls : Array Slot), b.1 ≤ b0.1 → b.2 ≤ b0.2 → p.2.2.1 ≤ b.1 → p.2.2.2 ≤ b.2 → f_X9_writeOne_J50 n a0 a2 σ b l3 l5 l6 t0 = some p → hp_w D vwCl (hp_Tl cA) E (hp_A (cd_pic cA ad ca0 σ0) sz) ss H locs (cd_pic cA ad ca σ) → lv_has ls 9 [(0, .ref (ad 9 a0)), (2, .ref (ad 6 a2)), (3, .int l3), (4, .ref (ad 179 0)), (5, .int l5), (6, .int l6)] → W pp l ee ({ frames := 5, cells := b0.1 - p.2.2.1, slots := b0.2 - p.2.2.2, locals := 132 }) ss mm [.ref (ad 9 a0), .ref (ad 2 0), .ref (ad 6 a2), .int a3, .ref (ad 179 0)].toArray bb mt cd H locs (b0.1 - b.1) (b0.2 - b.2) (MQ bb (hp_Qv D vwCl (hp_Tl cA) sz (cd_pic cA ad ca0 σ0) (fun u => ∃ ca1, cd_inj ad ca1 ∧ u = cd_pic cA ad ca1 p.2.1)) [.ref (ad 9 a0), .ref (ad 2 0), .ref (ad 6 a2), .int a3, .ref (ad 179 0)].toArray ss (b0.1 - p.2.2.1) (b0.2 - p.2.2.2) (hp_A (cd_pic cA ad ca0 σ0) sz)) (F0 mm 50 ls [.int t0]) := by
    intro ca hj σ b l3 l5 l6 t0 H locs ls hb1 hb2 hf1 hf2 h hw hl
    refine lv_istore (lv' := [(7, .int t0), (0, .ref (ad 9 a0)), (2, .ref (ad 6 a2)), (3, .int l3), (4, .ref (ad 179 0)), (5, .int l5), (6, .int l6)]) cx.1 cx.2.1 dX9_writeOne_50 hl (by decide) rfl (fun ls hl => ?_)
    refine lv_iload cx.1 cx.2.1 dX9_writeOne_52 (lv_at hl 5 rfl) ?_
    refine lv_bipush (v := 100) cx.1 cx.2.1 dX9_writeOne_54 (by decide) ?_
    refine lv_icmp_ne (tgt := 82) cx.1 cx.2.1 dX9_writeOne_56 (by decide) (fun c56 => ?_) (fun c56 => ?_)
    · have h := md_in c56 h
      refine lv_iload cx.1 cx.2.1 dX9_writeOne_82 (lv_at hl 0 rfl) ?_
      refine lv_if_eq (tgt := 102) cx.1 cx.2.1 dX9_writeOne_84 (by decide) (fun c84 => ?_) (fun c84 => ?_)
      · have h := md_ip c84 h
        exact J102 _ hj σ b l3 l5 l6 t0 _ _ _ (by omega) (by omega) (by omega) (by omega) h hw (lv_sub hl [1, 2, 3, 4, 5, 6, 0] rfl)
      · have h := md_in c84 h
        refine lv_aload_n cx.1 cx.2.1 dX9_writeOne_87 rfl (lv_at hl 2 rfl) ?_
        refine lv_ldc2 cx.1 cx.2.1 cx.2.2.2.2.1 (cx.2.2.2.2.2.1 _ (List.mem_cons_of_mem _ cm_606)) dX9_writeOne_88 ?_
        obtain ⟨p10, e_p10, h⟩ := md_ob h
        obtain ⟨hm11, hn11, h⟩ := cd_cks h
        have hM11 : p.2.2.1 ≤ p10.2.2.1 ∧ p.2.2.2 ≤ p10.2.2.2 := ⟨hm11, hn11⟩
        have hle10 := (kc_X6_add l D cA E sz ad _ hj oq sgq sgv hE n σ b a2 (2 : Int64) (show _ < 197 by omega) p10 e_p10).1
        refine hp_callVv (As := [.long 2]) (rest := []) cx hw ((kc_X6_add l D cA E _ ad _ hj oq sgq sgv hE n σ b a2 (2 : Int64) (show _ < 197 by omega) p10 e_p10).2) (cwV 1 cx.2.2.2.2.2.1 (cd_giV cm_570 cm_40 cm_41 cm_5 cm_42) rfl rfl rfl hdc_X6_add ⟨Nat.le_of_ble_eq_true rfl, Nat.le_of_ble_eq_true rfl⟩) (cd_atO hj (by decide) (show _ < 197 by omega)) rfl rfl hl.1 rfl (Nat.le_of_ble_eq_true rfl) dX9_writeOne_91 ⟨by (try dsimp only); omega, by (try dsimp only); omega⟩ (fun u H locs hp hw => ?_)
        obtain ⟨ca, hj, rfl⟩ := hp
        refine W.widen (k := b0.1 - p10.2.2.1) (n := b0.2 - p10.2.2.2) (by omega) (by omega) ?_
        refine lv_aload_n cx.1 cx.2.1 dX9_writeOne_94 rfl (lv_at hl 2 rfl) ?_
        refine lv_aload_n cx.1 cx.2.1 dX9_writeOne_95 rfl (lv_at hl 1 rfl) ?_
        obtain ⟨p12, e_p12, h⟩ := md_ob h
        refine hp_callVi (As := []) (rest := [.ref (ad 6 a2)]) cx hw (kc_X9_locals l D cA E _ ad _ hj oq sgq sgv hE n p10.2.1 a0 (show _ < 60 by omega) p12 e_p12) (cwV 0 cx.2.2.2.2.2.1 (cd_giV cm_607 cm_112 cm_113 cm_114 cm_115) rfl rfl rfl hdc_X9_locals ⟨Nat.le_of_ble_eq_true rfl, Nat.le_of_ble_eq_true rfl⟩) (cd_atO hj (by decide) (show _ < 60 by omega)) rfl rfl hl.1 rfl (Nat.le_of_ble_eq_true rfl) dX9_writeOne_96 ⟨by (try dsimp only); omega, by (try dsimp only); omega⟩ (fun r u H locs hp hw => ?_)
        obtain ⟨rfl, ca, hj, rfl⟩ := hp
        obtain ⟨p13, e_p13, h⟩ := md_ob h
        obtain ⟨hm14, hn14, h⟩ := cd_cks h
        have hM14 : p.2.2.1 ≤ p13.2.2.1 ∧ p.2.2.2 ≤ p13.2.2.2 := ⟨hm14, hn14⟩
        have hle13 := (kc_X6_addPair l D cA E sz ad _ hj oq sgq sgv hE n p12.2 (p10.2.2) a2 (p12.1) (show _ < 197 by omega) p13 e_p13).1
        refine hp_callVv (As := [.int p12.1]) (rest := []) cx hw ((kc_X6_addPair l D cA E _ ad _ hj oq sgq sgv hE n p12.2 (p10.2.2) a2 (p12.1) (show _ < 197 by omega) p13 e_p13).2) (cwV 1 cx.2.2.2.2.2.1 (cd_giV cm_572 cm_573 cm_574 cm_5 cm_575) rfl rfl rfl hdc_X6_addPair ⟨Nat.le_of_ble_eq_true rfl, Nat.le_of_ble_eq_true rfl⟩) (cd_atO hj (by decide) (show _ < 197 by omega)) rfl rfl hl.1 rfl (Nat.le_of_ble_eq_true rfl) dX9_writeOne_99 ⟨by (try dsimp only); omega, by (try dsimp only); omega⟩ (fun u H locs hp hw => ?_)
        obtain ⟨ca, hj, rfl⟩ := hp
        refine W.widen (k := b0.1 - p13.2.2.1) (n := b0.2 - p13.2.2.2) (by omega) (by omega) ?_
        exact J102 _ hj p13.2.1 (p13.2.2) l3 l5 l6 t0 _ _ _ (by omega) (by omega) (by omega) (by omega) h hw (lv_sub hl [1, 2, 3, 4, 5, 6, 0] rfl)
    · have h := md_ip c56 h
      refine lv_iload cx.1 cx.2.1 dX9_writeOne_59 (lv_at hl 6 rfl) ?_
      refine lv_if_lt (tgt := 81) cx.1 cx.2.1 dX9_writeOne_61 (by decide) (fun c61 => ?_) (fun c61 => ?_)
      · have h := md_ip c61 h
        exact hp_vret cx hw ((cd_retb hj h).2) dX9_writeOne_81 (cd_le1 h) (cd_le2 h)
      · have h := md_in c61 h
        refine lv_iload cx.1 cx.2.1 dX9_writeOne_64 (lv_at hl 6 rfl) ?_
        refine lv_aload cx.1 cx.2.1 dX9_writeOne_66 (lv_at hl 4 rfl) ?_
        refine cd_len (f := 79) (v := 400) hj cx hw (by decide) (by decide) (by decide) (by decide) (by decide) rfl dX9_writeOne_68 ?_
        refine lv_icmp_ge (tgt := 81) cx.1 cx.2.1 dX9_writeOne_69 (by decide) (fun c69 => ?_) (fun c69 => ?_)
        · have h := md_ip c69 h
          exact hp_vret cx hw ((cd_retb hj h).2) dX9_writeOne_81 (cd_le1 h) (cd_le2 h)
        · have h := md_in c69 h
          refine lv_aload cx.1 cx.2.1 dX9_writeOne_72 (lv_at hl 4 rfl) ?_
          refine lv_iload cx.1 cx.2.1 dX9_writeOne_74 (lv_at hl 6 rfl) ?_
          refine lv_aload_n cx.1 cx.2.1 dX9_writeOne_76 rfl (lv_at hl 2 rfl) ?_
          refine cd_gI (o := 6) (k := 1) (f := 193) hj cx hw hic6 rfl ⟨by decide, rfl, by decide, rfl⟩ rfl (show _ < 197 by omega) (List.mem_cons_of_mem _ cm_544) dX9_writeOne_77 ?_
          obtain ⟨σ15, e_σ15, h⟩ := md_ob h
          refine cd_sI (f := 79) hj cx hw (by decide) (by decide) rfl e_σ15 dX9_writeOne_80 (fun H locs hw => ?_)
          exact hp_vret cx hw ((cd_retb hj h).2) dX9_writeOne_81 (cd_le1 h) (cd_le2 h)
  have J49 : ∀ (ca : Nat → Nat) (hj : cd_inj ad ca) (σ : cd_S) (b : cd_B) (l3 : Int32) (l5 : Int32) (l6 : Int32) (H : Heap) (locs : List Loc) (ls : Array Slot), b.1 ≤ b0.1 → b.2 ≤ b0.2 → p.2.2.1 ≤ b.1 → p.2.2.2 ≤ b.2 → f_X9_writeOne_J49 n a0 a2 σ b l3 l5 l6 = some p → hp_w D vwCl (hp_Tl cA) E (hp_A (cd_pic cA ad ca0 σ0) sz) ss H locs (cd_pic cA ad ca σ) → lv_has ls 9 [(0, .ref (ad 9 a0)), (2, .ref (ad 6 a2)), (3, .int l3), (4, .ref (ad 179 0)), (5, .int l5), (6, .int l6)] → W pp l ee ({ frames := 5, cells := b0.1 - p.2.2.1, slots := b0.2 - p.2.2.2, locals := 132 }) ss mm [.ref (ad 9 a0), .ref (ad 2 0), .ref (ad 6 a2), .int a3, .ref (ad 179 0)].toArray bb mt cd H locs (b0.1 - b.1) (b0.2 - b.2) (MQ bb (hp_Qv D vwCl (hp_Tl cA) sz (cd_pic cA ad ca0 σ0) (fun u => ∃ ca1, cd_inj ad ca1 ∧ u = cd_pic cA ad ca1 p.2.1)) [.ref (ad 9 a0), .ref (ad 2 0), .ref (ad 6 a2), .int a3, .ref (ad 179 0)].toArray ss (b0.1 - p.2.2.1) (b0.2 - p.2.2.2) (hp_A (cd_pic cA ad ca0 σ0) sz)) (F0 mm 49 ls []) := by
    intro ca hj σ b l3 l5 l6 H locs ls hb1 hb2 hf1 hf2 h hw hl
    refine lv_iconst (v := 0) cx.1 cx.2.1 dX9_writeOne_49 (by decide) ?_
    exact J50 _ hj σ b l3 l5 l6 0 _ _ _ (by omega) (by omega) (by omega) (by omega) h hw (lv_sub hl [0, 1, 2, 3, 4, 5] rfl)
  refine lv_aload_n cx.1 cx.2.1 dX9_writeOne_0 rfl (lv_at hl 0 rfl) ?_
  refine lv_iload_n cx.1 cx.2.1 dX9_writeOne_1 rfl (lv_at hl 3 rfl) ?_
  obtain ⟨p16, e_p16, h⟩ := md_ob h
  refine hp_callVi (As := [.int a3]) (rest := []) cx hw (kc_X9_what l D cA E _ ad _ hj oq sgq sgv hE n σ0 a0 a3 (show _ < 60 by omega) p16 e_p16) (cwV 1 cx.2.2.2.2.2.1 (cd_giV cm_589 cm_590 cm_591 cm_114 cm_592) rfl rfl rfl hdc_X9_what ⟨Nat.le_of_ble_eq_true rfl, Nat.le_of_ble_eq_true rfl⟩) (cd_atO hj (by decide) (show _ < 60 by omega)) rfl rfl hl.1 rfl (Nat.le_of_ble_eq_true rfl) dX9_writeOne_2 ⟨by (try dsimp only); omega, by (try dsimp only); omega⟩ (fun r u H locs hp hw => ?_)
  obtain ⟨rfl, ca, hj, rfl⟩ := hp
  refine lv_istore (lv' := [(5, .int p16.1), (0, .ref (ad 9 a0)), (1, .ref (ad 2 0)), (2, .ref (ad 6 a2)), (3, .int a3), (4, .ref (ad 179 0))]) cx.1 cx.2.1 dX9_writeOne_5 hl (by decide) rfl (fun ls hl => ?_)
  refine lv_aload_n cx.1 cx.2.1 dX9_writeOne_7 rfl (lv_at hl 1 rfl) ?_
  refine lv_iload_n cx.1 cx.2.1 dX9_writeOne_8 rfl (lv_at hl 4 rfl) ?_
  obtain ⟨p17, e_p17, h⟩ := md_ob h
  refine hp_callVi (As := [.int a3]) (rest := []) cx hw (kc_X9_first l D cA E _ ad _ hj oq sgq sgv hE n p16.2 a0 a3 (show _ < 60 by omega) p17 e_p17) (cwV 1 cx.2.2.2.2.2.1 (cd_giV cm_593 cm_594 cm_595 cm_114 cm_596) rfl rfl rfl hdc_X9_first ⟨Nat.le_of_ble_eq_true rfl, Nat.le_of_ble_eq_true rfl⟩) (cd_atO hj (by decide) (show _ < 60 by omega)) rfl rfl hl.1 rfl (Nat.le_of_ble_eq_true rfl) dX9_writeOne_9 ⟨by (try dsimp only); omega, by (try dsimp only); omega⟩ (fun r u H locs hp hw => ?_)
  obtain ⟨rfl, ca, hj, rfl⟩ := hp
  refine lv_istore (lv' := [(6, .int p17.1), (5, .int p16.1), (0, .ref (ad 9 a0)), (1, .ref (ad 2 0)), (2, .ref (ad 6 a2)), (3, .int a3), (4, .ref (ad 179 0))]) cx.1 cx.2.1 dX9_writeOne_12 hl (by decide) rfl (fun ls hl => ?_)
  refine lv_aload_n cx.1 cx.2.1 dX9_writeOne_14 rfl (lv_at hl 4 rfl) ?_
  refine lv_aload_n cx.1 cx.2.1 dX9_writeOne_15 rfl (lv_at hl 2 rfl) ?_
  refine cd_gO (o2 := 6) (e2 := (19 + 3 * a0)) (o := 9) (k := 17) (f := 305) hj cx hw hic9 rfl ⟨by decide, rfl, by decide, rfl⟩ rfl (show _ < 60 by omega) ⟨rfl, rfl⟩ (List.mem_cons_of_mem _ cm_597) dX9_writeOne_16 ?_
  refine cd_acmp_ne (tgt := 49) hj (by decide) (by decide) (show _ < 197 by omega) (show _ < 197 by omega) cx.1 cx.2.1 dX9_writeOne_19 (by decide) (fun c19 => ?_) (fun c19 => ?_)
  · have h := md_in c19 h
    exact J49 _ hj p17.2 b0 a3 (p16.1) (p17.1) _ _ _ (by omega) (by omega) (by omega) (by omega) h hw (lv_sub hl [2, 4, 5, 6, 1, 0] rfl)
  · have h := md_ip c19 h
    refine lv_aload_n cx.1 cx.2.1 dX9_writeOne_22 rfl (lv_at hl 2 rfl) ?_
    refine cd_gI (o := 9) (k := 13) (f := 301) hj cx hw hic9 rfl ⟨by decide, rfl, by decide, rfl⟩ rfl (show _ < 60 by omega) (List.mem_cons_of_mem _ cm_541) dX9_writeOne_23 ?_
    refine lv_if_eq (tgt := 49) cx.1 cx.2.1 dX9_writeOne_26 (by decide) (fun c26 => ?_) (fun c26 => ?_)
    · have h := md_ip c26 h
      exact J49 _ hj p17.2 b0 a3 (p16.1) (p17.1) _ _ _ (by omega) (by omega) (by omega) (by omega) h hw (lv_sub hl [2, 4, 5, 6, 1, 0] rfl)
    · have h := md_in c26 h
      refine lv_aload_n cx.1 cx.2.1 dX9_writeOne_29 rfl (lv_at hl 3 rfl) ?_
      refine lv_iload cx.1 cx.2.1 dX9_writeOne_30 (lv_at hl 1 rfl) ?_
      refine lv_iload cx.1 cx.2.1 dX9_writeOne_32 (lv_at hl 0 rfl) ?_
      refine lv_aload_n cx.1 cx.2.1 dX9_writeOne_34 rfl (lv_at hl 2 rfl) ?_
      refine lv_iload_n cx.1 cx.2.1 dX9_writeOne_35 rfl (lv_at hl 5 rfl) ?_
      obtain ⟨p18, e_p18, h⟩ := md_ob h
      refine hp_callVi (As := [.int a3]) (rest := [.int p17.1, .int p16.1, .ref (ad 2 0)]) cx hw (kc_X9_second l D cA E _ ad _ hj oq sgq sgv hE n p17.2 a0 a3 (show _ < 60 by omega) p18 e_p18) (cwV 1 cx.2.2.2.2.2.1 (cd_giV cm_598 cm_599 cm_600 cm_114 cm_601) rfl rfl rfl hdc_X9_second ⟨Nat.le_of_ble_eq_true rfl, Nat.le_of_ble_eq_true rfl⟩) (cd_atO hj (by decide) (show _ < 60 by omega)) rfl rfl hl.1 rfl (Nat.le_of_ble_eq_true rfl) dX9_writeOne_36 ⟨by (try dsimp only); omega, by (try dsimp only); omega⟩ (fun r u H locs hp hw => ?_)
      obtain ⟨rfl, ca, hj, rfl⟩ := hp
      obtain ⟨p19, e_p19, h⟩ := md_ob h
      refine hp_callVi (As := [.int p16.1, .int p17.1, .int p18.1]) (rest := []) cx hw (kc_X2_handsContext l D cA E _ ad _ hj oq sgq sgv hE n p18.2 (p16.1) (p17.1) (p18.1) p19 e_p19) (cwV 3 cx.2.2.2.2.2.1 (cd_giV cm_602 cm_603 cm_604 cm_167 cm_605) rfl rfl rfl hdc_X2_handsContext ⟨Nat.le_of_ble_eq_true rfl, Nat.le_of_ble_eq_true rfl⟩) (cd_atO hj (by decide) (by decide)) rfl rfl hl.1 rfl (Nat.le_of_ble_eq_true rfl) dX9_writeOne_39 ⟨by (try dsimp only); omega, by (try dsimp only); omega⟩ (fun r u H locs hp hw => ?_)
      obtain ⟨rfl, ca, hj, rfl⟩ := hp
      refine lv_if_eq (tgt := 49) cx.1 cx.2.1 dX9_writeOne_42 (by decide) (fun c42 => ?_) (fun c42 => ?_)
      · have h := md_ip c42 h
        exact J49 _ hj p19.2 b0 a3 (p16.1) (p17.1) _ _ _ (by omega) (by omega) (by omega) (by omega) h hw (lv_sub hl [2, 4, 5, 6, 1, 0] rfl)
      · have h := md_in c42 h
        refine lv_iconst (v := 1) cx.1 cx.2.1 dX9_writeOne_45 (by decide) ?_
        refine lv_goto (tgt := 50) cx.1 cx.2.1 dX9_writeOne_46 (by decide) ?_
        exact J50 _ hj p19.2 b0 a3 (p16.1) (p17.1) 1 _ _ _ (by omega) (by omega) (by omega) (by omega) h hw (lv_sub hl [2, 4, 5, 6, 1, 0] rfl)
set_option maxHeartbeats 4000000 in
set_option maxRecDepth 100000 in
theorem kc_X9_write (l : Launch) (D : va_G) (cA : Nat → ClassId) (E : hp_N) (sz : Nat) (ad : Nat → Nat → Nat) (ca0 : Nat → Nat) (hj : cd_inj ad ca0) (oq sgq sgv : Nat) (hE : cd_E E oq sgq sgv) (n : Nat) (σ0 : cd_S) (b0 : cd_B) (a0 : Nat) (a2 : Int32) (hb_a0 : a0 < 60) (p : (Int32 × cd_S × cd_B)) (h : f_X9_write n σ0 b0 a0 a2 = some p) : (p.2.2.1 ≤ b0.1 ∧ p.2.2.2 ≤ b0.2) ∧ Met l yX9_write (Cond.code yX9_write cX9_write 7 none :: v_CLS) ({ frames := 6, cells := b0.1 - p.2.2.1, slots := b0.2 - p.2.2.2, locals := 160 }) (hp_Pc D vwCl (hp_Tl cA) E sz (cd_pic cA ad ca0 σ0) [.ref (ad 9 a0), .ref (ad 2 0), .int a2, .ref (ad 179 0)]) (hp_Qv D vwCl (hp_Tl cA) sz (cd_pic cA ad ca0 σ0) (fun u => ∃ ca1, cd_inj ad ca1 ∧ u = cd_pic cA ad ca1 p.2.1)) (b0.1 - p.2.2.1) (b0.2 - p.2.2.2) (hp_A (cd_pic cA ad ca0 σ0) sz) := by
  obtain ⟨hm0, hn0, h⟩ := cd_cks h
  have hM0 : p.2.2.1 ≤ b0.1 ∧ p.2.2.2 ≤ b0.2 := ⟨hm0, hn0⟩
  refine ⟨hM0, ?_⟩
  refine hp_ofW (cc := cX9_write) (maxL := 7) (ret := none) (by decide) rfl (Nat.le_of_ble_eq_true rfl) ?_
  intro pp ee ss mm bb mt cd ls cx hsz hw hl
  have hl : lv_has ls 7 [(0, .ref (ad 9 a0)), (1, .ref (ad 2 0)), (2, .int a2), (3, .ref (ad 179 0))] := hl
  refine W.widen (k := b0.1 - b0.1) (n := b0.2 - b0.2) (Nat.zero_le _) (Nat.zero_le _) ?_
  have J15 : ∀ (ca : Nat → Nat) (hj : cd_inj ad ca) (σ : cd_S) (b : cd_B) (l2 : Int32) (t0 : Nat) (H : Heap) (locs : List Loc) (ls : Array Slot), t0 < 197 → b.1 ≤ b0.1 → b.2 ≤ b0.2 → p.2.2.1 ≤ b.1 → p.2.2.2 ≤ b.2 → f_X9_write_J15 n a0 σ b l2 t0 = some p → hp_w D vwCl (hp_Tl cA) E (hp_A (cd_pic cA ad ca0 σ0) sz) ss H locs (cd_pic cA ad ca σ) → lv_has ls 7 [(0, .ref (ad 9 a0)), (1, .ref (ad 2 0)), (2, .int l2), (3, .ref (ad 179 0))] → W pp l ee ({ frames := 6, cells := b0.1 - p.2.2.1, slots := b0.2 - p.2.2.2, locals := 160 }) ss mm [.ref (ad 9 a0), .ref (ad 2 0), .int a2, .ref (ad 179 0)].toArray bb mt cd H locs (b0.1 - b.1) (b0.2 - b.2) (MQ bb (hp_Qv D vwCl (hp_Tl cA) sz (cd_pic cA ad ca0 σ0) (fun u => ∃ ca1, cd_inj ad ca1 ∧ u = cd_pic cA ad ca1 p.2.1)) [.ref (ad 9 a0), .ref (ad 2 0), .int a2, .ref (ad 179 0)].toArray ss (b0.1 - p.2.2.1) (b0.2 - p.2.2.2) (hp_A (cd_pic cA ad ca0 σ0) sz)) (F0 mm 15 ls [.ref (ad 6 t0)]) := by
    intro ca hj σ b l2 t0 H locs ls hb_t0 hb1 hb2 hf1 hf2 h hw hl
    refine lv_astore (lv' := [(4, .ref (ad 6 t0)), (0, .ref (ad 9 a0)), (1, .ref (ad 2 0)), (2, .int l2), (3, .ref (ad 179 0))]) cx.1 cx.2.1 dX9_write_15 hl (by decide) rfl (fun ls hl => ?_)
    refine lv_iconst (v := 0) cx.1 cx.2.1 dX9_write_17 (by decide) ?_
    refine lv_istore (lv' := [(5, .int 0), (4, .ref (ad 6 t0)), (0, .ref (ad 9 a0)), (1, .ref (ad 2 0)), (2, .int l2), (3, .ref (ad 179 0))]) cx.1 cx.2.1 dX9_write_18 hl (by decide) rfl (fun ls hl => ?_)
    have L20 : ∀ (j : Nat) (ca : Nat → Nat) (hj : cd_inj ad ca) (σ : cd_S) (b : cd_B) (l2 : Int32) (l4 : Nat) (l5 : Int32) (q : (cd_S × cd_B × Int32)) (H : Heap) (locs : List Loc) (ls : Array Slot), l4 < 197 → b.1 ≤ b0.1 → b.2 ≤ b0.2 → p.2.2.1 ≤ b.1 → p.2.2.2 ≤ b.2 → p.2.2.1 ≤ q.2.1.1 → p.2.2.2 ≤ q.2.1.2 → f_X9_write_L20 n a0 l2 l4 j σ b l5 = some q → hp_w D vwCl (hp_Tl cA) E (hp_A (cd_pic cA ad ca0 σ0) sz) ss H locs (cd_pic cA ad ca σ) → lv_has ls 7 [(0, .ref (ad 9 a0)), (1, .ref (ad 2 0)), (2, .int l2), (3, .ref (ad 179 0)), (4, .ref (ad 6 l4)), (5, .int l5)] → (∀ (ca : Nat → Nat) (hj : cd_inj ad ca) (H : Heap) (locs : List Loc) (ls : Array Slot), q.2.1.1 ≤ b0.1 → q.2.1.2 ≤ b0.2 → hp_w D vwCl (hp_Tl cA) E (hp_A (cd_pic cA ad ca0 σ0) sz) ss H locs (cd_pic cA ad ca q.1) → lv_has ls 7 [] → W pp l ee ({ frames := 6, cells := b0.1 - p.2.2.1, slots := b0.2 - p.2.2.2, locals := 160 }) ss mm [.ref (ad 9 a0), .ref (ad 2 0), .int a2, .ref (ad 179 0)].toArray bb mt cd H locs (b0.1 - q.2.1.1) (b0.2 - q.2.1.2) (MQ bb (hp_Qv D vwCl (hp_Tl cA) sz (cd_pic cA ad ca0 σ0) (fun u => ∃ ca1, cd_inj ad ca1 ∧ u = cd_pic cA ad ca1 p.2.1)) [.ref (ad 9 a0), .ref (ad 2 0), .int a2, .ref (ad 179 0)].toArray ss (b0.1 - p.2.2.1) (b0.2 - p.2.2.2) (hp_A (cd_pic cA ad ca0 σ0) sz)) (F0 mm 83 ls [])) → W pp l ee ({ frames := 6, cells := b0.1 - p.2.2.1, slots := b0.2 - p.2.2.2, locals := 160 }) ss mm [.ref (ad 9 a0), .ref (ad 2 0), .int a2, .ref (ad 179 0)].toArray bb mt cd H locs (b0.1 - b.1) (b0.2 - b.2) (MQ bb (hp_Qv D vwCl (hp_Tl cA) sz (cd_pic cA ad ca0 σ0) (fun u => ∃ ca1, cd_inj ad ca1 ∧ u = cd_pic cA ad ca1 p.2.1)) [.ref (ad 9 a0), .ref (ad 2 0), .int a2, .ref (ad 179 0)].toArray ss (b0.1 - p.2.2.1) (b0.2 - p.2.2.2) (hp_A (cd_pic cA ad ca0 σ0) sz)) (F0 mm 20 ls []) := by
      intro j
      induction j with
      | zero => intro ca hj σ b l2 l4 l5 q H locs ls hb_l4 hb1 hb2 hf1 hf2 hq1 hq2 h; exact nomatch h
      | succ j ih =>
        intro ca hj σ b l2 l4 l5 q H locs ls hb_l4 hb1 hb2 hf1 hf2 hq1 hq2 h hw hl K
        unfold f_X9_write_L20 at h
        have J49 : ∀ (ca : Nat → Nat) (hj : cd_inj ad ca) (σ : cd_S) (b : cd_B) (l5 : Int32) (H : Heap) (locs : List Loc) (ls : Array Slot), b.1 ≤ b0.1 → b.2 ≤ b0.2 → p.2.2.1 ≤ b.1 → p.2.2.2 ≤ b.2 → f_X9_write_J49 n a0 l2 l4 (f_X9_write_L20 n a0 l2 l4 j) σ b l5 = some q → hp_w D vwCl (hp_Tl cA) E (hp_A (cd_pic cA ad ca0 σ0) sz) ss H locs (cd_pic cA ad ca σ) → lv_has ls 7 [(0, .ref (ad 9 a0)), (1, .ref (ad 2 0)), (2, .int l2), (3, .ref (ad 179 0)), (4, .ref (ad 6 l4)), (5, .int l5)] → W pp l ee ({ frames := 6, cells := b0.1 - p.2.2.1, slots := b0.2 - p.2.2.2, locals := 160 }) ss mm [.ref (ad 9 a0), .ref (ad 2 0), .int a2, .ref (ad 179 0)].toArray bb mt cd H locs (b0.1 - b.1) (b0.2 - b.2) (MQ bb (hp_Qv D vwCl (hp_Tl cA) sz (cd_pic cA ad ca0 σ0) (fun u => ∃ ca1, cd_inj ad ca1 ∧ u = cd_pic cA ad ca1 p.2.1)) [.ref (ad 9 a0), .ref (ad 2 0), .int a2, .ref (ad 179 0)].toArray ss (b0.1 - p.2.2.1) (b0.2 - p.2.2.2) (hp_A (cd_pic cA ad ca0 σ0) sz)) (F0 mm 49 ls []) := by
          intro ca hj σ b l5 H locs ls hb1 hb2 hf1 hf2 h hw hl
          refine lv_iconst (v := 0) cx.1 cx.2.1 dX9_write_49 (by decide) ?_
          refine lv_istore (lv' := [(6, .int 0), (0, .ref (ad 9 a0)), (1, .ref (ad 2 0)), (2, .int l2), (3, .ref (ad 179 0)), (4, .ref (ad 6 l4)), (5, .int l5)]) cx.1 cx.2.1 dX9_write_50 hl (by decide) rfl (fun ls hl => ?_)
          have L52 : ∀ (j : Nat) (ca : Nat → Nat) (hj : cd_inj ad ca) (σ : cd_S) (b : cd_B) (l2 : Int32) (l4 : Nat) (l5 : Int32) (l6 : Int32) (q : (cd_S × cd_B × Int32)) (H : Heap) (locs : List Loc) (ls : Array Slot), l4 < 197 → b.1 ≤ b0.1 → b.2 ≤ b0.2 → p.2.2.1 ≤ b.1 → p.2.2.2 ≤ b.2 → p.2.2.1 ≤ q.2.1.1 → p.2.2.2 ≤ q.2.1.2 → f_X9_write_L52 n a0 l2 l4 l5 j σ b l6 = some q → hp_w D vwCl (hp_Tl cA) E (hp_A (cd_pic cA ad ca0 σ0) sz) ss H locs (cd_pic cA ad ca σ) → lv_has ls 7 [(0, .ref (ad 9 a0)), (1, .ref (ad 2 0)), (2, .int l2), (3, .ref (ad 179 0)), (4, .ref (ad 6 l4)), (5, .int l5), (6, .int l6)] → (∀ (ca : Nat → Nat) (hj : cd_inj ad ca) (H : Heap) (locs : List Loc) (ls : Array Slot), q.2.1.1 ≤ b0.1 → q.2.1.2 ≤ b0.2 → hp_w D vwCl (hp_Tl cA) E (hp_A (cd_pic cA ad ca0 σ0) sz) ss H locs (cd_pic cA ad ca q.1) → lv_has ls 7 [(0, .ref (ad 9 a0)), (1, .ref (ad 2 0)), (2, .int l2), (3, .ref (ad 179 0)), (4, .ref (ad 6 l4)), (5, .int l5)] → W pp l ee ({ frames := 6, cells := b0.1 - p.2.2.1, slots := b0.2 - p.2.2.2, locals := 160 }) ss mm [.ref (ad 9 a0), .ref (ad 2 0), .int a2, .ref (ad 179 0)].toArray bb mt cd H locs (b0.1 - q.2.1.1) (b0.2 - q.2.1.2) (MQ bb (hp_Qv D vwCl (hp_Tl cA) sz (cd_pic cA ad ca0 σ0) (fun u => ∃ ca1, cd_inj ad ca1 ∧ u = cd_pic cA ad ca1 p.2.1)) [.ref (ad 9 a0), .ref (ad 2 0), .int a2, .ref (ad 179 0)].toArray ss (b0.1 - p.2.2.1) (b0.2 - p.2.2.2) (hp_A (cd_pic cA ad ca0 σ0) sz)) (F0 mm 77 ls [])) → W pp l ee ({ frames := 6, cells := b0.1 - p.2.2.1, slots := b0.2 - p.2.2.2, locals := 160 }) ss mm [.ref (ad 9 a0), .ref (ad 2 0), .int a2, .ref (ad 179 0)].toArray bb mt cd H locs (b0.1 - b.1) (b0.2 - b.2) (MQ bb (hp_Qv D vwCl (hp_Tl cA) sz (cd_pic cA ad ca0 σ0) (fun u => ∃ ca1, cd_inj ad ca1 ∧ u = cd_pic cA ad ca1 p.2.1)) [.ref (ad 9 a0), .ref (ad 2 0), .int a2, .ref (ad 179 0)].toArray ss (b0.1 - p.2.2.1) (b0.2 - p.2.2.2) (hp_A (cd_pic cA ad ca0 σ0) sz)) (F0 mm 52 ls []) := by
            intro j
            induction j with
            | zero => intro ca hj σ b l2 l4 l5 l6 q H locs ls hb_l4 hb1 hb2 hf1 hf2 hq1 hq2 h; exact nomatch h
            | succ j ih =>
              intro ca hj σ b l2 l4 l5 l6 q H locs ls hb_l4 hb1 hb2 hf1 hf2 hq1 hq2 h hw hl K
              unfold f_X9_write_L52 at h
              refine lv_iload cx.1 cx.2.1 dX9_write_52 (lv_at hl 6 rfl) ?_
              refine lv_aload_n cx.1 cx.2.1 dX9_write_54 rfl (lv_at hl 0 rfl) ?_
              obtain ⟨p1, e_p1, h⟩ := md_ob h
              refine hp_callVi (As := []) (rest := [.int l6]) cx hw (kc_X9_length l D cA E _ ad _ hj oq sgq sgv hE n σ a0 (show _ < 60 by omega) p1 e_p1) (cwV 0 cx.2.2.2.2.2.1 (cd_giV cm_619 cm_620 cm_621 cm_114 cm_622) rfl rfl rfl hdc_X9_length ⟨Nat.le_of_ble_eq_true rfl, Nat.le_of_ble_eq_true rfl⟩) (cd_atO hj (by decide) (show _ < 60 by omega)) rfl rfl hl.1 rfl (Nat.le_of_ble_eq_true rfl) dX9_write_55 ⟨by (try dsimp only); omega, by (try dsimp only); omega⟩ (fun r u H locs hp hw => ?_)
              obtain ⟨rfl, ca, hj, rfl⟩ := hp
              refine lv_icmp_ge (tgt := 77) cx.1 cx.2.1 dX9_write_58 (by decide) (fun c58 => ?_) (fun c58 => ?_)
              · have h := md_ip c58 h
                obtain rfl := Option.some.inj h
                exact K _ hj _ _ _ (by (try dsimp only); omega) (by (try dsimp only); omega) hw (lv_sub hl [0, 1, 2, 3, 4, 5] rfl)
              · have h := md_in c58 h
                refine lv_aload_n cx.1 cx.2.1 dX9_write_61 rfl (lv_at hl 0 rfl) ?_
                refine lv_aload_n cx.1 cx.2.1 dX9_write_62 rfl (lv_at hl 1 rfl) ?_
                refine lv_aload cx.1 cx.2.1 dX9_write_63 (lv_at hl 4 rfl) ?_
                refine lv_iload cx.1 cx.2.1 dX9_write_65 (lv_at hl 6 rfl) ?_
                refine lv_aload_n cx.1 cx.2.1 dX9_write_67 rfl (lv_at hl 3 rfl) ?_
                obtain ⟨p2, e_p2, h⟩ := md_ob h
                obtain ⟨hm3, hn3, h⟩ := cd_cks h
                have hM3 : p.2.2.1 ≤ p2.2.2.1 ∧ p.2.2.2 ≤ p2.2.2.2 := ⟨Nat.le_trans hq1 hm3, Nat.le_trans hq2 hn3⟩
                have hle2 := (kc_X9_writeOne l D cA E sz ad _ hj oq sgq sgv hE n p1.2 b a0 l4 l6 (show _ < 60 by omega) (show _ < 197 by omega) p2 e_p2).1
                refine hp_callVv (As := [.ref (ad 2 0), .ref (ad 6 l4), .int l6, .ref (ad 179 0)]) (rest := []) cx hw ((kc_X9_writeOne l D cA E _ ad _ hj oq sgq sgv hE n p1.2 b a0 l4 l6 (show _ < 60 by omega) (show _ < 197 by omega) p2 e_p2).2) (cwV 4 cx.2.2.2.2.2.1 (cd_giV cm_623 cm_624 cm_625 cm_114 cm_626) rfl rfl rfl hdc_X9_writeOne ⟨Nat.le_of_ble_eq_true rfl, Nat.le_of_ble_eq_true rfl⟩) (cd_atO hj (by decide) (show _ < 60 by omega)) rfl rfl hl.1 rfl (Nat.le_of_ble_eq_true rfl) dX9_write_68 ⟨by (try dsimp only); omega, by (try dsimp only); omega⟩ (fun u H locs hp hw => ?_)
                obtain ⟨ca, hj, rfl⟩ := hp
                refine W.widen (k := b0.1 - p2.2.2.1) (n := b0.2 - p2.2.2.2) (by omega) (by omega) ?_
                refine lv_iinc (v := (l6 + 1)) (lv' := [(6, .int (l6 + 1)), (0, .ref (ad 9 a0)), (1, .ref (ad 2 0)), (2, .int l2), (3, .ref (ad 179 0)), (4, .ref (ad 6 l4)), (5, .int l5)]) cx.1 cx.2.1 dX9_write_71 hl (k := 6) rfl rfl (by decide) rfl (fun ls hl => ?_)
                refine lv_goto (tgt := 52) cx.1 cx.2.1 dX9_write_74 (by decide) ?_
                exact ih _ hj p2.2.1 (p2.2.2) l2 l4 l5 ((l6 + 1)) q _ _ _ (by omega) (by omega) (by omega) (by omega) (by omega) hq1 hq2 h hw (lv_sub hl [1, 2, 3, 4, 5, 6, 0] rfl) K
          obtain ⟨q4, e_q4, h⟩ := md_ob h
          obtain ⟨hm5, hn5, h⟩ := cd_cks h
          have hM5 : p.2.2.1 ≤ q4.2.1.1 ∧ p.2.2.2 ≤ q4.2.1.2 := ⟨Nat.le_trans hq1 hm5, Nat.le_trans hq2 hn5⟩
          refine L52 n _ hj σ b l2 l4 l5 0 q4 _ _ _ (by omega) (by omega) (by omega) (by omega) (by omega) hM5.1 hM5.2 e_q4 hw (lv_sub hl [1, 2, 3, 4, 5, 6, 0] rfl) (fun ca hj H locs ls hb1 hb2 hw hl => ?_)
          refine lv_iinc (v := (l5 + 1)) (lv' := [(5, .int (l5 + 1)), (0, .ref (ad 9 a0)), (1, .ref (ad 2 0)), (2, .int l2), (3, .ref (ad 179 0)), (4, .ref (ad 6 l4))]) cx.1 cx.2.1 dX9_write_77 hl (k := 5) rfl rfl (by decide) rfl (fun ls hl => ?_)
          refine lv_goto (tgt := 20) cx.1 cx.2.1 dX9_write_80 (by decide) ?_
          exact ih _ hj q4.1 (q4.2.1) l2 l4 ((l5 + 1)) q _ _ _ (by omega) (by omega) (by omega) (by omega) (by omega) hq1 hq2 h hw (lv_sub hl [1, 2, 3, 4, 5, 0] rfl) K
        refine lv_iload cx.1 cx.2.1 dX9_write_20 (lv_at hl 5 rfl) ?_
        refine lv_iconst (v := 2) cx.1 cx.2.1 dX9_write_22 (by decide) ?_
        refine lv_icmp_ge (tgt := 83) cx.1 cx.2.1 dX9_write_23 (by decide) (fun c23 => ?_) (fun c23 => ?_)
        · have h := md_ip c23 h
          obtain rfl := Option.some.inj h
          exact K _ hj _ _ _ (by (try dsimp only); omega) (by (try dsimp only); omega) hw (lv_sub hl [] rfl)
        · have h := md_in c23 h
          refine lv_aload cx.1 cx.2.1 dX9_write_26 (lv_at hl 4 rfl) ?_
          refine lv_iconst (v := 0) cx.1 cx.2.1 dX9_write_28 (by decide) ?_
          obtain ⟨p6, e_p6, h⟩ := md_ob h
          refine hp_callVv (As := [.int 0]) (rest := []) cx hw (kc_X6_cut l D cA E _ ad _ hj oq sgq sgv hE n σ l4 (0 : Int32) (show _ < 197 by omega) p6 e_p6) (cwV 1 cx.2.2.2.2.2.1 (cd_giV cm_614 cm_3 cm_4 cm_5 cm_6) rfl rfl rfl hdc_X6_cut ⟨Nat.le_of_ble_eq_true rfl, Nat.le_of_ble_eq_true rfl⟩) (cd_atO hj (by decide) (show _ < 197 by omega)) rfl rfl hl.1 rfl (Nat.le_of_ble_eq_true rfl) dX9_write_29 ⟨by (try dsimp only); omega, by (try dsimp only); omega⟩ (fun u H locs hp hw => ?_)
          obtain ⟨ca, hj, rfl⟩ := hp
          refine lv_iload_n cx.1 cx.2.1 dX9_write_32 rfl (lv_at hl 2 rfl) ?_
          refine lv_if_eq (tgt := 49) cx.1 cx.2.1 dX9_write_33 (by decide) (fun c33 => ?_) (fun c33 => ?_)
          · have h := md_ip c33 h
            exact J49 _ hj p6.2 b l5 _ _ _ (by omega) (by omega) (by omega) (by omega) h hw (lv_sub hl [0, 1, 2, 3, 4, 5] rfl)
          · have h := md_in c33 h
            refine lv_aload_n cx.1 cx.2.1 dX9_write_36 rfl (lv_at hl 0 rfl) ?_
            refine cd_gI (o := 9) (k := 13) (f := 301) hj cx hw hic9 rfl ⟨by decide, rfl, by decide, rfl⟩ rfl (show _ < 60 by omega) (List.mem_cons_of_mem _ cm_541) dX9_write_37 ?_
            refine lv_if_eq (tgt := 49) cx.1 cx.2.1 dX9_write_40 (by decide) (fun c40 => ?_) (fun c40 => ?_)
            · have h := md_ip c40 h
              exact J49 _ hj p6.2 b l5 _ _ _ (by omega) (by omega) (by omega) (by omega) h hw (lv_sub hl [0, 1, 2, 3, 4, 5] rfl)
            · have h := md_in c40 h
              refine lv_aload_n cx.1 cx.2.1 dX9_write_43 rfl (lv_at hl 0 rfl) ?_
              refine lv_aload cx.1 cx.2.1 dX9_write_44 (lv_at hl 4 rfl) ?_
              obtain ⟨p7, e_p7, h⟩ := md_ob h
              obtain ⟨hm8, hn8, h⟩ := cd_cks h
              have hM8 : p.2.2.1 ≤ p7.2.2.1 ∧ p.2.2.2 ≤ p7.2.2.2 := ⟨Nat.le_trans hq1 hm8, Nat.le_trans hq2 hn8⟩
              have hle7 := (kc_X9_writeEntry l D cA E sz ad _ hj oq sgq sgv hE n p6.2 b a0 l4 (show _ < 60 by omega) (show _ < 197 by omega) p7 e_p7).1
              refine hp_callVv (As := [.ref (ad 6 l4)]) (rest := []) cx hw ((kc_X9_writeEntry l D cA E _ ad _ hj oq sgq sgv hE n p6.2 b a0 l4 (show _ < 60 by omega) (show _ < 197 by omega) p7 e_p7).2) (cwV 1 cx.2.2.2.2.2.1 (cd_giV cm_615 cm_616 cm_617 cm_114 cm_618) rfl rfl rfl hdc_X9_writeEntry ⟨Nat.le_of_ble_eq_true rfl, Nat.le_of_ble_eq_true rfl⟩) (cd_atO hj (by decide) (show _ < 60 by omega)) rfl rfl hl.1 rfl (Nat.le_of_ble_eq_true rfl) dX9_write_46 ⟨by (try dsimp only); omega, by (try dsimp only); omega⟩ (fun u H locs hp hw => ?_)
              obtain ⟨ca, hj, rfl⟩ := hp
              refine W.widen (k := b0.1 - p7.2.2.1) (n := b0.2 - p7.2.2.2) (by omega) (by omega) ?_
              exact J49 _ hj p7.2.1 (p7.2.2) l5 _ _ _ (by omega) (by omega) (by omega) (by omega) h hw (lv_sub hl [0, 1, 2, 3, 4, 5] rfl)
    obtain ⟨q9, e_q9, h⟩ := md_ob h
    obtain ⟨hm10, hn10, h⟩ := cd_cks h
    have hM10 : p.2.2.1 ≤ q9.2.1.1 ∧ p.2.2.2 ≤ q9.2.1.2 := ⟨hm10, hn10⟩
    refine L20 n _ hj σ b l2 t0 0 q9 _ _ _ (by omega) (by omega) (by omega) (by omega) (by omega) hM10.1 hM10.2 e_q9 hw (lv_sub hl [2, 3, 4, 5, 1, 0] rfl) (fun ca hj H locs ls hb1 hb2 hw hl => ?_)
    exact hp_vret cx hw ((cd_retb hj h).2) dX9_write_83 (cd_le1 h) (cd_le2 h)
  refine lv_iload_n cx.1 cx.2.1 dX9_write_0 rfl (lv_at hl 2 rfl) ?_
  refine lv_if_eq (tgt := 11) cx.1 cx.2.1 dX9_write_1 (by decide) (fun c1 => ?_) (fun c1 => ?_)
  · have h := md_ip c1 h
    refine lv_aload_n cx.1 cx.2.1 dX9_write_11 rfl (lv_at hl 0 rfl) ?_
    refine cd_gO (o2 := 6) (e2 := (18 + 3 * a0)) (o := 9) (k := 16) (f := 304) hj cx hw hic9 rfl ⟨by decide, rfl, by decide, rfl⟩ rfl (show _ < 60 by omega) ⟨rfl, rfl⟩ (List.mem_cons_of_mem _ cm_613) dX9_write_12 ?_
    exact J15 _ hj σ0 b0 a2 ((18 + 3 * a0)) _ _ _ (by omega) (by omega) (by omega) (by omega) (by omega) h hw (lv_sub hl [0, 1, 2, 3] rfl)
  · have h := md_in c1 h
    refine lv_aload_n cx.1 cx.2.1 dX9_write_4 rfl (lv_at hl 0 rfl) ?_
    refine cd_gO (o2 := 6) (e2 := (19 + 3 * a0)) (o := 9) (k := 17) (f := 305) hj cx hw hic9 rfl ⟨by decide, rfl, by decide, rfl⟩ rfl (show _ < 60 by omega) ⟨rfl, rfl⟩ (List.mem_cons_of_mem _ cm_597) dX9_write_5 ?_
    refine lv_goto (tgt := 15) cx.1 cx.2.1 dX9_write_8 (by decide) ?_
    exact J15 _ hj σ0 b0 a2 ((19 + 3 * a0)) _ _ _ (by omega) (by omega) (by omega) (by omega) (by omega) h hw (lv_sub hl [0, 1, 2, 3] rfl)
set_option maxHeartbeats 4000000 in
set_option maxRecDepth 100000 in
theorem kc_X2_writeCode (l : Launch) (D : va_G) (cA : Nat → ClassId) (E : hp_N) (sz : Nat) (ad : Nat → Nat → Nat) (ca0 : Nat → Nat) (hj : cd_inj ad ca0) (oq sgq sgv : Nat) (hE : cd_E E oq sgq sgv) (n : Nat) (σ0 : cd_S) (b0 : cd_B) (p : (Int32 × cd_S × cd_B)) (h : f_X2_writeCode n σ0 b0 = some p) : (p.2.2.1 ≤ b0.1 ∧ p.2.2.2 ≤ b0.2) ∧ Met l yX2_writeCode (Cond.code yX2_writeCode cX2_writeCode 2 none :: v_CLS) ({ frames := 7, cells := b0.1 - p.2.2.1, slots := b0.2 - p.2.2.2, locals := 186 }) (hp_Pc D vwCl (hp_Tl cA) E sz (cd_pic cA ad ca0 σ0) [.ref (ad 2 0)]) (hp_Qv D vwCl (hp_Tl cA) sz (cd_pic cA ad ca0 σ0) (fun u => ∃ ca1, cd_inj ad ca1 ∧ u = cd_pic cA ad ca1 p.2.1)) (b0.1 - p.2.2.1) (b0.2 - p.2.2.2) (hp_A (cd_pic cA ad ca0 σ0) sz) := by
  obtain ⟨hm0, hn0, h⟩ := cd_cks h
  have hM0 : p.2.2.1 ≤ b0.1 ∧ p.2.2.2 ≤ b0.2 := ⟨hm0, hn0⟩
  refine ⟨hM0, ?_⟩
  refine hp_ofW (cc := cX2_writeCode) (maxL := 2) (ret := none) (by decide) rfl (Nat.le_of_ble_eq_true rfl) ?_
  intro pp ee ss mm bb mt cd ls cx hsz hw hl
  have hl : lv_has ls 2 [(0, .ref (ad 2 0))] := hl
  refine W.widen (k := b0.1 - b0.1) (n := b0.2 - b0.2) (Nat.zero_le _) (Nat.zero_le _) ?_
  refine lv_aload_n cx.1 cx.2.1 dX2_writeCode_0 rfl (lv_at hl 0 rfl) ?_
  refine cd_gO (o2 := 3) (e2 := 0) (o := 2) (k := 0) (f := 64) hj cx hw hic2 rfl ⟨by decide, rfl, by decide, rfl⟩ rfl (by decide) ⟨rfl, rfl⟩ (List.mem_cons_of_mem _ cm_526) dX2_writeCode_1 ?_
  obtain ⟨p1, e_p1, h⟩ := md_ob h
  refine hp_callVv (As := []) (rest := []) cx hw (kc_X3_settleAskings l D cA E _ ad _ hj oq sgq sgv hE n σ0  p1 e_p1) (cwV 0 cx.2.2.2.2.2.1 (cd_giV cm_627 cm_628 cm_629 cm_332 cm_630) rfl rfl rfl hdc_X3_settleAskings ⟨Nat.le_of_ble_eq_true rfl, Nat.le_of_ble_eq_true rfl⟩) (cd_atO hj (by decide) (by decide)) rfl rfl hl.1 rfl (Nat.le_of_ble_eq_true rfl) dX2_writeCode_4 ⟨by (try dsimp only); omega, by (try dsimp only); omega⟩ (fun u H locs hp hw => ?_)
  obtain ⟨ca, hj, rfl⟩ := hp
  refine lv_iconst (v := 0) cx.1 cx.2.1 dX2_writeCode_7 (by decide) ?_
  refine lv_istore_n (lv' := [(1, .int 0), (0, .ref (ad 2 0))]) cx.1 cx.2.1 dX2_writeCode_8 rfl hl (by decide) rfl (fun ls hl => ?_)
  have L9 : ∀ (j : Nat) (ca : Nat → Nat) (hj : cd_inj ad ca) (σ : cd_S) (b : cd_B) (l1 : Int32) (q : (cd_S × cd_B × Int32)) (H : Heap) (locs : List Loc) (ls : Array Slot), b.1 ≤ b0.1 → b.2 ≤ b0.2 → p.2.2.1 ≤ b.1 → p.2.2.2 ≤ b.2 → p.2.2.1 ≤ q.2.1.1 → p.2.2.2 ≤ q.2.1.2 → f_X2_writeCode_L9 n j σ b l1 = some q → hp_w D vwCl (hp_Tl cA) E (hp_A (cd_pic cA ad ca0 σ0) sz) ss H locs (cd_pic cA ad ca σ) → lv_has ls 2 [(0, .ref (ad 2 0)), (1, .int l1)] → (∀ (ca : Nat → Nat) (hj : cd_inj ad ca) (H : Heap) (locs : List Loc) (ls : Array Slot), q.2.1.1 ≤ b0.1 → q.2.1.2 ≤ b0.2 → hp_w D vwCl (hp_Tl cA) E (hp_A (cd_pic cA ad ca0 σ0) sz) ss H locs (cd_pic cA ad ca q.1) → lv_has ls 2 [] → W pp l ee ({ frames := 7, cells := b0.1 - p.2.2.1, slots := b0.2 - p.2.2.2, locals := 186 }) ss mm [.ref (ad 2 0)].toArray bb mt cd H locs (b0.1 - q.2.1.1) (b0.2 - q.2.1.2) (MQ bb (hp_Qv D vwCl (hp_Tl cA) sz (cd_pic cA ad ca0 σ0) (fun u => ∃ ca1, cd_inj ad ca1 ∧ u = cd_pic cA ad ca1 p.2.1)) [.ref (ad 2 0)].toArray ss (b0.1 - p.2.2.1) (b0.2 - p.2.2.2) (hp_A (cd_pic cA ad ca0 σ0) sz)) (F0 mm 53 ls [])) → W pp l ee ({ frames := 7, cells := b0.1 - p.2.2.1, slots := b0.2 - p.2.2.2, locals := 186 }) ss mm [.ref (ad 2 0)].toArray bb mt cd H locs (b0.1 - b.1) (b0.2 - b.2) (MQ bb (hp_Qv D vwCl (hp_Tl cA) sz (cd_pic cA ad ca0 σ0) (fun u => ∃ ca1, cd_inj ad ca1 ∧ u = cd_pic cA ad ca1 p.2.1)) [.ref (ad 2 0)].toArray ss (b0.1 - p.2.2.1) (b0.2 - p.2.2.2) (hp_A (cd_pic cA ad ca0 σ0) sz)) (F0 mm 9 ls []) := by
    intro j
    induction j with
    | zero => intro ca hj σ b l1 q H locs ls hb1 hb2 hf1 hf2 hq1 hq2 h; exact nomatch h
    | succ j ih =>
      intro ca hj σ b l1 q H locs ls hb1 hb2 hf1 hf2 hq1 hq2 h hw hl K
      unfold f_X2_writeCode_L9 at h
      refine lv_iload_n cx.1 cx.2.1 dX2_writeCode_9 rfl (lv_at hl 1 rfl) ?_
      refine lv_aload_n cx.1 cx.2.1 dX2_writeCode_10 rfl (lv_at hl 0 rfl) ?_
      refine cd_gI (o := 2) (k := 2) (f := 66) hj cx hw hic2 rfl ⟨by decide, rfl, by decide, rfl⟩ rfl (by decide) (List.mem_cons_of_mem _ cm_531) dX2_writeCode_11 ?_
      refine lv_icmp_ge (tgt := 53) cx.1 cx.2.1 dX2_writeCode_14 (by decide) (fun c14 => ?_) (fun c14 => ?_)
      · have h := md_ip c14 h
        obtain rfl := Option.some.inj h
        exact K _ hj _ _ _ (by (try dsimp only); omega) (by (try dsimp only); omega) hw (lv_sub hl [] rfl)
      · have h := md_in c14 h
        refine lv_aload_n cx.1 cx.2.1 dX2_writeCode_17 rfl (lv_at hl 0 rfl) ?_
        refine cd_gA (o := 2) (k := 1) (f := 65) hj cx hw hic2 rfl ⟨by decide, rfl, by decide, rfl⟩ rfl (by decide) (List.mem_cons_of_mem _ cm_274) dX2_writeCode_18 ?_
        refine lv_iload_n cx.1 cx.2.1 dX2_writeCode_21 rfl (lv_at hl 1 rfl) ?_
        obtain ⟨u2, e_u2, h⟩ := md_ob h
        have hb_u2 : u2 < 60 := (cd_ldRs e_u2).2.2
        refine cd_lR (f := 65) (o2 := 9) hj cx hw (by decide) (by decide) rfl (by decide) rfl rfl e_u2 dX2_writeCode_22 ?_
        refine lv_aload_n cx.1 cx.2.1 dX2_writeCode_23 rfl (lv_at hl 0 rfl) ?_
        refine lv_iconst (v := 0) cx.1 cx.2.1 dX2_writeCode_24 (by decide) ?_
        refine lv_aload_n cx.1 cx.2.1 dX2_writeCode_25 rfl (lv_at hl 0 rfl) ?_
        refine cd_gA (o := 2) (k := 15) (f := 79) hj cx hw hic2 rfl ⟨by decide, rfl, by decide, rfl⟩ rfl (by decide) (List.mem_cons_of_mem _ cm_631) dX2_writeCode_26 ?_
        obtain ⟨p3, e_p3, h⟩ := md_ob h
        obtain ⟨hm4, hn4, h⟩ := cd_cks h
        have hM4 : p.2.2.1 ≤ p3.2.2.1 ∧ p.2.2.2 ≤ p3.2.2.2 := ⟨Nat.le_trans hq1 hm4, Nat.le_trans hq2 hn4⟩
        have hle3 := (kc_X9_write l D cA E sz ad _ hj oq sgq sgv hE n σ b u2 (0 : Int32) (show _ < 60 by omega) p3 e_p3).1
        refine hp_callVv (As := [.ref (ad 2 0), .int 0, .ref (ad 179 0)]) (rest := []) cx hw ((kc_X9_write l D cA E _ ad _ hj oq sgq sgv hE n σ b u2 (0 : Int32) (show _ < 60 by omega) p3 e_p3).2) (cwV 3 cx.2.2.2.2.2.1 (cd_giV cm_632 cm_633 cm_634 cm_114 cm_635) rfl rfl rfl hdc_X9_write ⟨Nat.le_of_ble_eq_true rfl, Nat.le_of_ble_eq_true rfl⟩) (cd_atO hj (by decide) (show _ < 60 by omega)) rfl rfl hl.1 rfl (Nat.le_of_ble_eq_true rfl) dX2_writeCode_29 ⟨by (try dsimp only); omega, by (try dsimp only); omega⟩ (fun u H locs hp hw => ?_)
        obtain ⟨ca, hj, rfl⟩ := hp
        refine W.widen (k := b0.1 - p3.2.2.1) (n := b0.2 - p3.2.2.2) (by omega) (by omega) ?_
        refine lv_aload_n cx.1 cx.2.1 dX2_writeCode_32 rfl (lv_at hl 0 rfl) ?_
        refine cd_gA (o := 2) (k := 1) (f := 65) hj cx hw hic2 rfl ⟨by decide, rfl, by decide, rfl⟩ rfl (by decide) (List.mem_cons_of_mem _ cm_274) dX2_writeCode_33 ?_
        refine lv_iload_n cx.1 cx.2.1 dX2_writeCode_36 rfl (lv_at hl 1 rfl) ?_
        obtain ⟨u5, e_u5, h⟩ := md_ob h
        have hb_u5 : u5 < 60 := (cd_ldRs e_u5).2.2
        refine cd_lR (f := 65) (o2 := 9) hj cx hw (by decide) (by decide) rfl (by decide) rfl rfl e_u5 dX2_writeCode_37 ?_
        refine lv_aload_n cx.1 cx.2.1 dX2_writeCode_38 rfl (lv_at hl 0 rfl) ?_
        refine lv_iconst (v := 1) cx.1 cx.2.1 dX2_writeCode_39 (by decide) ?_
        refine lv_aload_n cx.1 cx.2.1 dX2_writeCode_40 rfl (lv_at hl 0 rfl) ?_
        refine cd_gA (o := 2) (k := 15) (f := 79) hj cx hw hic2 rfl ⟨by decide, rfl, by decide, rfl⟩ rfl (by decide) (List.mem_cons_of_mem _ cm_631) dX2_writeCode_41 ?_
        obtain ⟨p6, e_p6, h⟩ := md_ob h
        obtain ⟨hm7, hn7, h⟩ := cd_cks h
        have hM7 : p.2.2.1 ≤ p6.2.2.1 ∧ p.2.2.2 ≤ p6.2.2.2 := ⟨Nat.le_trans hq1 hm7, Nat.le_trans hq2 hn7⟩
        have hle6 := (kc_X9_write l D cA E sz ad _ hj oq sgq sgv hE n p3.2.1 (p3.2.2) u5 (1 : Int32) (show _ < 60 by omega) p6 e_p6).1
        refine hp_callVv (As := [.ref (ad 2 0), .int 1, .ref (ad 179 0)]) (rest := []) cx hw ((kc_X9_write l D cA E _ ad _ hj oq sgq sgv hE n p3.2.1 (p3.2.2) u5 (1 : Int32) (show _ < 60 by omega) p6 e_p6).2) (cwV 3 cx.2.2.2.2.2.1 (cd_giV cm_632 cm_633 cm_634 cm_114 cm_635) rfl rfl rfl hdc_X9_write ⟨Nat.le_of_ble_eq_true rfl, Nat.le_of_ble_eq_true rfl⟩) (cd_atO hj (by decide) (show _ < 60 by omega)) rfl rfl hl.1 rfl (Nat.le_of_ble_eq_true rfl) dX2_writeCode_44 ⟨by (try dsimp only); omega, by (try dsimp only); omega⟩ (fun u H locs hp hw => ?_)
        obtain ⟨ca, hj, rfl⟩ := hp
        refine W.widen (k := b0.1 - p6.2.2.1) (n := b0.2 - p6.2.2.2) (by omega) (by omega) ?_
        refine lv_iinc (v := (l1 + 1)) (lv' := [(1, .int (l1 + 1)), (0, .ref (ad 2 0))]) cx.1 cx.2.1 dX2_writeCode_47 hl (k := 1) rfl rfl (by decide) rfl (fun ls hl => ?_)
        refine lv_goto (tgt := 9) cx.1 cx.2.1 dX2_writeCode_50 (by decide) ?_
        exact ih _ hj p6.2.1 (p6.2.2) ((l1 + 1)) q _ _ _ (by omega) (by omega) (by omega) (by omega) hq1 hq2 h hw (lv_sub hl [1, 0] rfl) K
  obtain ⟨q8, e_q8, h⟩ := md_ob h
  obtain ⟨hm9, hn9, h⟩ := cd_cks h
  have hM9 : p.2.2.1 ≤ q8.2.1.1 ∧ p.2.2.2 ≤ q8.2.1.2 := ⟨hm9, hn9⟩
  refine L9 n _ hj p1.2 b0 0 q8 _ _ _ (by omega) (by omega) (by omega) (by omega) hM9.1 hM9.2 e_q8 hw (lv_sub hl [1, 0] rfl) (fun ca hj H locs ls hb1 hb2 hw hl => ?_)
  exact hp_vret cx hw ((cd_retb hj h).2) dX2_writeCode_53 (cd_le1 h) (cd_le2 h)
set_option maxHeartbeats 4000000 in
set_option maxRecDepth 100000 in
theorem kc_X2_needing (l : Launch) (D : va_G) (cA : Nat → ClassId) (E : hp_N) (sz : Nat) (ad : Nat → Nat → Nat) (ca0 : Nat → Nat) (hj : cd_inj ad ca0) (oq sgq sgv : Nat) (hE : cd_E E oq sgq sgv) (n : Nat) (σ0 : cd_S) (p : (Int32 × cd_S)) (h : f_X2_needing n σ0 = some p) : Met l yX2_needing (Cond.code yX2_needing cX2_needing 3 (some .int) :: v_CLS) ({ frames := 0, cells := 0, slots := 0, locals := 0 }) (hp_Pc D vwCl (hp_Tl cA) E sz (cd_pic cA ad ca0 σ0) [.ref (ad 2 0)]) (hp_Qi D vwCl (hp_Tl cA) sz (cd_pic cA ad ca0 σ0) (fun r u => r = p.1 ∧ ∃ ca1, cd_inj ad ca1 ∧ u = cd_pic cA ad ca1 p.2)) 0 0 (hp_A (cd_pic cA ad ca0 σ0) sz) := by
  refine hp_ofW (cc := cX2_needing) (maxL := 3) (ret := (some .int)) (by decide) rfl (Nat.le_of_ble_eq_true rfl) ?_
  intro pp ee ss mm bb mt cd ls cx hsz hw hl
  have hl : lv_has ls 3 [(0, .ref (ad 2 0))] := hl
  refine lv_iconst (v := 0) cx.1 cx.2.1 dX2_needing_0 (by decide) ?_
  refine lv_istore_n (lv' := [(1, .int 0), (0, .ref (ad 2 0))]) cx.1 cx.2.1 dX2_needing_1 rfl hl (by decide) rfl (fun ls hl => ?_)
  refine lv_iconst (v := 0) cx.1 cx.2.1 dX2_needing_2 (by decide) ?_
  refine lv_istore_n (lv' := [(2, .int 0), (1, .int 0), (0, .ref (ad 2 0))]) cx.1 cx.2.1 dX2_needing_3 rfl hl (by decide) rfl (fun ls hl => ?_)
  have L4 : ∀ (j : Nat) (ca : Nat → Nat) (hj : cd_inj ad ca) (σ : cd_S) (l1 : Int32) (l2 : Int32) (q : (cd_S × Int32 × Int32)) (H : Heap) (locs : List Loc) (ls : Array Slot), f_X2_needing_L4 n j σ l1 l2 = some q → hp_w D vwCl (hp_Tl cA) E (hp_A (cd_pic cA ad ca0 σ0) sz) ss H locs (cd_pic cA ad ca σ) → lv_has ls 3 [(0, .ref (ad 2 0)), (1, .int l1), (2, .int l2)] → (∀ (ca : Nat → Nat) (hj : cd_inj ad ca) (H : Heap) (locs : List Loc) (ls : Array Slot), hp_w D vwCl (hp_Tl cA) E (hp_A (cd_pic cA ad ca0 σ0) sz) ss H locs (cd_pic cA ad ca q.1) → lv_has ls 3 [(1, .int q.2.1)] → W pp l ee ({ frames := 0, cells := 0, slots := 0, locals := 0 }) ss mm [.ref (ad 2 0)].toArray bb mt cd H locs 0 0 (MQ bb (hp_Qi D vwCl (hp_Tl cA) sz (cd_pic cA ad ca0 σ0) (fun r u => r = p.1 ∧ ∃ ca1, cd_inj ad ca1 ∧ u = cd_pic cA ad ca1 p.2)) [.ref (ad 2 0)].toArray ss 0 0 (hp_A (cd_pic cA ad ca0 σ0) sz)) (F0 mm 38 ls [])) → W pp l ee ({ frames := 0, cells := 0, slots := 0, locals := 0 }) ss mm [.ref (ad 2 0)].toArray bb mt cd H locs 0 0 (MQ bb (hp_Qi D vwCl (hp_Tl cA) sz (cd_pic cA ad ca0 σ0) (fun r u => r = p.1 ∧ ∃ ca1, cd_inj ad ca1 ∧ u = cd_pic cA ad ca1 p.2)) [.ref (ad 2 0)].toArray ss 0 0 (hp_A (cd_pic cA ad ca0 σ0) sz)) (F0 mm 4 ls []) := by
    intro j
    induction j with
    | zero => intro ca hj σ l1 l2 q H locs ls h; exact nomatch h
    | succ j ih =>
      intro ca hj σ l1 l2 q H locs ls h hw hl K
      unfold f_X2_needing_L4 at h
      have J30 : ∀ (ca : Nat → Nat) (hj : cd_inj ad ca) (σ : cd_S) (l2 : Int32) (t0 : Int32) (t1 : Int32) (H : Heap) (locs : List Loc) (ls : Array Slot), f_X2_needing_J30 n (f_X2_needing_L4 n j) σ l2 t0 t1 = some q → hp_w D vwCl (hp_Tl cA) E (hp_A (cd_pic cA ad ca0 σ0) sz) ss H locs (cd_pic cA ad ca σ) → lv_has ls 3 [(0, .ref (ad 2 0)), (2, .int l2)] → W pp l ee ({ frames := 0, cells := 0, slots := 0, locals := 0 }) ss mm [.ref (ad 2 0)].toArray bb mt cd H locs 0 0 (MQ bb (hp_Qi D vwCl (hp_Tl cA) sz (cd_pic cA ad ca0 σ0) (fun r u => r = p.1 ∧ ∃ ca1, cd_inj ad ca1 ∧ u = cd_pic cA ad ca1 p.2)) [.ref (ad 2 0)].toArray ss 0 0 (hp_A (cd_pic cA ad ca0 σ0) sz)) (F0 mm 30 ls [.int t0, .int t1]) := by
        intro ca hj σ l2 t0 t1 H locs ls h hw hl
        refine lv_iadd cx.1 cx.2.1 dX2_needing_30 ?_
        refine lv_istore_n (lv' := [(1, .int (t1 + t0)), (0, .ref (ad 2 0)), (2, .int l2)]) cx.1 cx.2.1 dX2_needing_31 rfl hl (by decide) rfl (fun ls hl => ?_)
        refine lv_iinc (v := (l2 + 1)) (lv' := [(2, .int (l2 + 1)), (1, .int (t1 + t0)), (0, .ref (ad 2 0))]) cx.1 cx.2.1 dX2_needing_32 hl (k := 2) rfl rfl (by decide) rfl (fun ls hl => ?_)
        refine lv_goto (tgt := 4) cx.1 cx.2.1 dX2_needing_35 (by decide) ?_
        exact ih _ hj σ ((t1 + t0)) ((l2 + 1)) q _ _ _ h hw (lv_sub hl [2, 1, 0] rfl) K
      refine lv_iload_n cx.1 cx.2.1 dX2_needing_4 rfl (lv_at hl 2 rfl) ?_
      refine lv_aload_n cx.1 cx.2.1 dX2_needing_5 rfl (lv_at hl 0 rfl) ?_
      refine cd_gI (o := 2) (k := 2) (f := 66) hj cx hw hic2 rfl ⟨by decide, rfl, by decide, rfl⟩ rfl (by decide) (List.mem_cons_of_mem _ cm_531) dX2_needing_6 ?_
      refine lv_icmp_ge (tgt := 38) cx.1 cx.2.1 dX2_needing_9 (by decide) (fun c9 => ?_) (fun c9 => ?_)
      · have h := md_ip c9 h
        obtain rfl := Option.some.inj h
        exact K _ hj _ _ _ hw (lv_sub hl [1] rfl)
      · have h := md_in c9 h
        refine lv_iload_n cx.1 cx.2.1 dX2_needing_12 rfl (lv_at hl 1 rfl) ?_
        refine lv_aload_n cx.1 cx.2.1 dX2_needing_13 rfl (lv_at hl 0 rfl) ?_
        refine cd_gA (o := 2) (k := 1) (f := 65) hj cx hw hic2 rfl ⟨by decide, rfl, by decide, rfl⟩ rfl (by decide) (List.mem_cons_of_mem _ cm_274) dX2_needing_14 ?_
        refine lv_iload_n cx.1 cx.2.1 dX2_needing_17 rfl (lv_at hl 2 rfl) ?_
        obtain ⟨u1, e_u1, h⟩ := md_ob h
        have hb_u1 : u1 < 60 := (cd_ldRs e_u1).2.2
        refine cd_lR (f := 65) (o2 := 9) hj cx hw (by decide) (by decide) rfl (by decide) rfl rfl e_u1 dX2_needing_18 ?_
        refine cd_gI (o := 9) (k := 13) (f := 301) hj cx hw hic9 rfl ⟨by decide, rfl, by decide, rfl⟩ rfl (show _ < 60 by omega) (List.mem_cons_of_mem _ cm_567) dX2_needing_19 ?_
        refine lv_if_eq (tgt := 29) cx.1 cx.2.1 dX2_needing_22 (by decide) (fun c22 => ?_) (fun c22 => ?_)
        · have h := md_ip c22 h
          refine lv_iconst (v := 0) cx.1 cx.2.1 dX2_needing_29 (by decide) ?_
          exact J30 _ hj σ l2 0 l1 _ _ _ h hw (lv_sub hl [0, 2] rfl)
        · have h := md_in c22 h
          refine lv_iconst (v := 1) cx.1 cx.2.1 dX2_needing_25 (by decide) ?_
          refine lv_goto (tgt := 30) cx.1 cx.2.1 dX2_needing_26 (by decide) ?_
          exact J30 _ hj σ l2 1 l1 _ _ _ h hw (lv_sub hl [0, 2] rfl)
  obtain ⟨q2, e_q2, h⟩ := md_ob h
  refine L4 n _ hj σ0 0 0 q2 _ _ _ e_q2 hw (lv_sub hl [2, 1, 0] rfl) (fun ca hj H locs ls hw hl => ?_)
  refine lv_iload_n cx.1 cx.2.1 dX2_needing_38 rfl (lv_at hl 0 rfl) ?_
  exact hp_iret cx hw (cd_ret hj h) dX2_needing_39
set_option maxHeartbeats 4000000 in
set_option maxRecDepth 100000 in
theorem kc_X2_sizeOf (l : Launch) (D : va_G) (cA : Nat → ClassId) (E : hp_N) (sz : Nat) (ad : Nat → Nat → Nat) (ca0 : Nat → Nat) (hj : cd_inj ad ca0) (oq sgq sgv : Nat) (hE : cd_E E oq sgq sgv) (n : Nat) (σ0 : cd_S) (a1 : Int32) (p : (Int32 × cd_S)) (h : f_X2_sizeOf n σ0 a1 = some p) : Met l yX2_sizeOf (Cond.code yX2_sizeOf cX2_sizeOf 2 (some .int) :: v_CLS) ({ frames := 1, cells := 0, slots := 0, locals := 22 }) (hp_Pc D vwCl (hp_Tl cA) E sz (cd_pic cA ad ca0 σ0) [.ref (ad 2 0), .int a1]) (hp_Qi D vwCl (hp_Tl cA) sz (cd_pic cA ad ca0 σ0) (fun r u => r = p.1 ∧ ∃ ca1, cd_inj ad ca1 ∧ u = cd_pic cA ad ca1 p.2)) 0 0 (hp_A (cd_pic cA ad ca0 σ0) sz) := by
  refine hp_ofW (cc := cX2_sizeOf) (maxL := 2) (ret := (some .int)) (by decide) rfl (Nat.le_of_ble_eq_true rfl) ?_
  intro pp ee ss mm bb mt cd ls cx hsz hw hl
  have hl : lv_has ls 2 [(0, .ref (ad 2 0)), (1, .int a1)] := hl
  refine lv_iload_n cx.1 cx.2.1 dX2_sizeOf_0 rfl (lv_at hl 1 rfl) ?_
  by_cases c1_0 : a1 = 0
  · refine lv_tableIn (off := 51) (tgt := 52) cx.1 cx.2.1 dX2_sizeOf_1 (by rw [c1_0]; decide) (by rw [c1_0]; decide) (by rw [c1_0]; decide) (by decide) ?_
    have h := md_ip c1_0 h
    refine lv_aload_n cx.1 cx.2.1 dX2_sizeOf_52 rfl (lv_at hl 0 rfl) ?_
    refine cd_gI (o := 2) (k := 2) (f := 66) hj cx hw hic2 rfl ⟨by decide, rfl, by decide, rfl⟩ rfl (by decide) (List.mem_cons_of_mem _ cm_531) dX2_sizeOf_53 ?_
    exact hp_iret cx hw (cd_ret hj h) dX2_sizeOf_56
  have h := md_in c1_0 h
  by_cases c1_1 : a1 = 1
  · refine lv_tableIn (off := 56) (tgt := 57) cx.1 cx.2.1 dX2_sizeOf_1 (by rw [c1_1]; decide) (by rw [c1_1]; decide) (by rw [c1_1]; decide) (by decide) ?_
    have h := md_ip c1_1 h
    refine lv_aload_n cx.1 cx.2.1 dX2_sizeOf_57 rfl (lv_at hl 0 rfl) ?_
    refine cd_gI (o := 2) (k := 10) (f := 74) hj cx hw hic2 rfl ⟨by decide, rfl, by decide, rfl⟩ rfl (by decide) (List.mem_cons_of_mem _ cm_163) dX2_sizeOf_58 ?_
    exact hp_iret cx hw (cd_ret hj h) dX2_sizeOf_61
  have h := md_in c1_1 h
  by_cases c1_2 : a1 = 2
  · refine lv_tableIn (off := 61) (tgt := 62) cx.1 cx.2.1 dX2_sizeOf_1 (by rw [c1_2]; decide) (by rw [c1_2]; decide) (by rw [c1_2]; decide) (by decide) ?_
    have h := md_ip c1_2 h
    refine lv_aload_n cx.1 cx.2.1 dX2_sizeOf_62 rfl (lv_at hl 0 rfl) ?_
    refine cd_gO (o2 := 3) (e2 := 0) (o := 2) (k := 0) (f := 64) hj cx hw hic2 rfl ⟨by decide, rfl, by decide, rfl⟩ rfl (by decide) ⟨rfl, rfl⟩ (List.mem_cons_of_mem _ cm_526) dX2_sizeOf_63 ?_
    refine cd_gI (o := 3) (k := 10) (f := 106) hj cx hw hic3 rfl ⟨by decide, rfl, by decide, rfl⟩ rfl (by decide) (List.mem_cons_of_mem _ cm_636) dX2_sizeOf_66 ?_
    exact hp_iret cx hw (cd_ret hj h) dX2_sizeOf_69
  have h := md_in c1_2 h
  by_cases c1_3 : a1 = 3
  · refine lv_tableIn (off := 69) (tgt := 70) cx.1 cx.2.1 dX2_sizeOf_1 (by rw [c1_3]; decide) (by rw [c1_3]; decide) (by rw [c1_3]; decide) (by decide) ?_
    have h := md_ip c1_3 h
    refine lv_aload_n cx.1 cx.2.1 dX2_sizeOf_70 rfl (lv_at hl 0 rfl) ?_
    refine cd_gO (o2 := 3) (e2 := 0) (o := 2) (k := 0) (f := 64) hj cx hw hic2 rfl ⟨by decide, rfl, by decide, rfl⟩ rfl (by decide) ⟨rfl, rfl⟩ (List.mem_cons_of_mem _ cm_526) dX2_sizeOf_71 ?_
    refine cd_gI (o := 3) (k := 12) (f := 108) hj cx hw hic3 rfl ⟨by decide, rfl, by decide, rfl⟩ rfl (by decide) (List.mem_cons_of_mem _ cm_637) dX2_sizeOf_74 ?_
    exact hp_iret cx hw (cd_ret hj h) dX2_sizeOf_77
  have h := md_in c1_3 h
  by_cases c1_4 : a1 = 4
  · refine lv_tableIn (off := 77) (tgt := 78) cx.1 cx.2.1 dX2_sizeOf_1 (by rw [c1_4]; decide) (by rw [c1_4]; decide) (by rw [c1_4]; decide) (by decide) ?_
    have h := md_ip c1_4 h
    refine lv_aload_n cx.1 cx.2.1 dX2_sizeOf_78 rfl (lv_at hl 0 rfl) ?_
    refine cd_gO (o2 := 3) (e2 := 0) (o := 2) (k := 0) (f := 64) hj cx hw hic2 rfl ⟨by decide, rfl, by decide, rfl⟩ rfl (by decide) ⟨rfl, rfl⟩ (List.mem_cons_of_mem _ cm_526) dX2_sizeOf_79 ?_
    refine cd_gI (o := 3) (k := 11) (f := 107) hj cx hw hic3 rfl ⟨by decide, rfl, by decide, rfl⟩ rfl (by decide) (List.mem_cons_of_mem _ cm_638) dX2_sizeOf_82 ?_
    exact hp_iret cx hw (cd_ret hj h) dX2_sizeOf_85
  have h := md_in c1_4 h
  by_cases c1_5 : a1 = 5
  · refine lv_tableIn (off := 85) (tgt := 86) cx.1 cx.2.1 dX2_sizeOf_1 (by rw [c1_5]; decide) (by rw [c1_5]; decide) (by rw [c1_5]; decide) (by decide) ?_
    have h := md_ip c1_5 h
    refine lv_aload_n cx.1 cx.2.1 dX2_sizeOf_86 rfl (lv_at hl 0 rfl) ?_
    refine cd_gO (o2 := 3) (e2 := 0) (o := 2) (k := 0) (f := 64) hj cx hw hic2 rfl ⟨by decide, rfl, by decide, rfl⟩ rfl (by decide) ⟨rfl, rfl⟩ (List.mem_cons_of_mem _ cm_526) dX2_sizeOf_87 ?_
    refine cd_gI (o := 3) (k := 13) (f := 109) hj cx hw hic3 rfl ⟨by decide, rfl, by decide, rfl⟩ rfl (by decide) (List.mem_cons_of_mem _ cm_639) dX2_sizeOf_90 ?_
    exact hp_iret cx hw (cd_ret hj h) dX2_sizeOf_93
  have h := md_in c1_5 h
  by_cases c1_6 : a1 = 6
  · refine lv_tableIn (off := 93) (tgt := 94) cx.1 cx.2.1 dX2_sizeOf_1 (by rw [c1_6]; decide) (by rw [c1_6]; decide) (by rw [c1_6]; decide) (by decide) ?_
    have h := md_ip c1_6 h
    refine lv_aload_n cx.1 cx.2.1 dX2_sizeOf_94 rfl (lv_at hl 0 rfl) ?_
    obtain ⟨p1, e_p1, h⟩ := md_ob h
    refine hp_callVi (As := []) (rest := []) cx hw (kc_X2_needing l D cA E _ ad _ hj oq sgq sgv hE n σ0  p1 e_p1) (cwV 0 cx.2.2.2.2.2.1 (cd_giV cm_640 cm_641 cm_642 cm_167 cm_643) rfl rfl rfl hdc_X2_needing ⟨Nat.le_of_ble_eq_true rfl, Nat.le_of_ble_eq_true rfl⟩) (cd_atO hj (by decide) (by decide)) rfl rfl hl.1 rfl (Nat.le_of_ble_eq_true rfl) dX2_sizeOf_95 ⟨Nat.le_refl _, Nat.le_refl _⟩ (fun r u H locs hp hw => ?_)
    obtain ⟨rfl, ca, hj, rfl⟩ := hp
    exact hp_iret cx hw (cd_ret hj h) dX2_sizeOf_98
  have h := md_in c1_6 h
  by_cases c1_7 : a1 = 7
  · refine lv_tableIn (off := 98) (tgt := 99) cx.1 cx.2.1 dX2_sizeOf_1 (by rw [c1_7]; decide) (by rw [c1_7]; decide) (by rw [c1_7]; decide) (by decide) ?_
    have h := md_ip c1_7 h
    refine lv_aload_n cx.1 cx.2.1 dX2_sizeOf_99 rfl (lv_at hl 0 rfl) ?_
    refine cd_gI (o := 2) (k := 12) (f := 76) hj cx hw hic2 rfl ⟨by decide, rfl, by decide, rfl⟩ rfl (by decide) (List.mem_cons_of_mem _ cm_405) dX2_sizeOf_100 ?_
    exact hp_iret cx hw (cd_ret hj h) dX2_sizeOf_103
  have h := md_in c1_7 h
  by_cases c1_8 : a1 = 8
  · refine lv_tableIn (off := 103) (tgt := 104) cx.1 cx.2.1 dX2_sizeOf_1 (by rw [c1_8]; decide) (by rw [c1_8]; decide) (by rw [c1_8]; decide) (by decide) ?_
    have h := md_ip c1_8 h
    refine lv_aload_n cx.1 cx.2.1 dX2_sizeOf_104 rfl (lv_at hl 0 rfl) ?_
    refine cd_gI (o := 2) (k := 14) (f := 78) hj cx hw hic2 rfl ⟨by decide, rfl, by decide, rfl⟩ rfl (by decide) (List.mem_cons_of_mem _ cm_382) dX2_sizeOf_105 ?_
    exact hp_iret cx hw (cd_ret hj h) dX2_sizeOf_108
  have h := md_in c1_8 h
  have nc1_0 := md_nei c1_0
  have nc1_1 := md_nei c1_1
  have nc1_2 := md_nei c1_2
  have nc1_3 := md_nei c1_3
  have nc1_4 := md_nei c1_4
  have nc1_5 := md_nei c1_5
  have nc1_6 := md_nei c1_6
  have nc1_7 := md_nei c1_7
  have nc1_8 := md_nei c1_8
  refine lv_tableOut (tgt := 109) cx.1 cx.2.1 dX2_sizeOf_1 (by have := nc1_0; rw [show ((0 : Int32)).toInt = 0 from by decide] at this; have := nc1_1; rw [show ((1 : Int32)).toInt = 1 from by decide] at this; have := nc1_2; rw [show ((2 : Int32)).toInt = 2 from by decide] at this; have := nc1_3; rw [show ((3 : Int32)).toInt = 3 from by decide] at this; have := nc1_4; rw [show ((4 : Int32)).toInt = 4 from by decide] at this; have := nc1_5; rw [show ((5 : Int32)).toInt = 5 from by decide] at this; have := nc1_6; rw [show ((6 : Int32)).toInt = 6 from by decide] at this; have := nc1_7; rw [show ((7 : Int32)).toInt = 7 from by decide] at this; have := nc1_8; rw [show ((8 : Int32)).toInt = 8 from by decide] at this;  omega) (by decide) ?_
  refine lv_iconst (v := (-1)) cx.1 cx.2.1 dX2_sizeOf_109 (by decide) ?_
  exact hp_iret cx hw (cd_ret hj h) dX2_sizeOf_110
set_option maxHeartbeats 4000000 in
set_option maxRecDepth 100000 in
theorem kc_X3_addGrant (l : Launch) (D : va_G) (cA : Nat → ClassId) (E : hp_N) (sz : Nat) (ad : Nat → Nat → Nat) (ca0 : Nat → Nat) (hj : cd_inj ad ca0) (oq sgq sgv : Nat) (hE : cd_E E oq sgq sgv) (n : Nat) (σ0 : cd_S) (a1 : Nat) (hb_a1 : a1 < 196) (p : (Int32 × cd_S)) (h : f_X3_addGrant n σ0 a1 = some p) : Met l yX3_addGrant (Cond.code yX3_addGrant cX3_addGrant 2 none :: v_CLS) ({ frames := 1, cells := 0, slots := 0, locals := 22 }) (hp_Pc D vwCl (hp_Tl cA) E sz (cd_pic cA ad ca0 σ0) [.ref (ad 3 0), .ref (ad 5 a1)]) (hp_Qv D vwCl (hp_Tl cA) sz (cd_pic cA ad ca0 σ0) (fun u => ∃ ca1, cd_inj ad ca1 ∧ u = cd_pic cA ad ca1 p.2)) 0 0 (hp_A (cd_pic cA ad ca0 σ0) sz) := by
  refine hp_ofW (cc := cX3_addGrant) (maxL := 2) (ret := none) (by decide) rfl (Nat.le_of_ble_eq_true rfl) ?_
  intro pp ee ss mm bb mt cd ls cx hsz hw hl
  have hl : lv_has ls 2 [(0, .ref (ad 3 0)), (1, .ref (ad 5 a1))] := hl
  refine lv_aload_n cx.1 cx.2.1 dX3_addGrant_0 rfl (lv_at hl 0 rfl) ?_
  refine cd_gI (o := 3) (k := 10) (f := 106) hj cx hw hic3 rfl ⟨by decide, rfl, by decide, rfl⟩ rfl (by decide) (List.mem_cons_of_mem _ cm_327) dX3_addGrant_1 ?_
  refine lv_bipush (v := 8) cx.1 cx.2.1 dX3_addGrant_4 (by decide) ?_
  refine lv_icmp_ge (tgt := 42) cx.1 cx.2.1 dX3_addGrant_6 (by decide) (fun c6 => ?_) (fun c6 => ?_)
  · have h := md_ip c6 h
    exact hp_vret cx hw ((cd_ret hj h).2) dX3_addGrant_42
  · have h := md_in c6 h
    refine lv_aload_n cx.1 cx.2.1 dX3_addGrant_9 rfl (lv_at hl 0 rfl) ?_
    refine cd_gA (o := 3) (k := 0) (f := 96) hj cx hw hic3 rfl ⟨by decide, rfl, by decide, rfl⟩ rfl (by decide) (List.mem_cons_of_mem _ cm_644) dX3_addGrant_10 ?_
    refine lv_aload_n cx.1 cx.2.1 dX3_addGrant_13 rfl (lv_at hl 0 rfl) ?_
    refine cd_gI (o := 3) (k := 10) (f := 106) hj cx hw hic3 rfl ⟨by decide, rfl, by decide, rfl⟩ rfl (by decide) (List.mem_cons_of_mem _ cm_327) dX3_addGrant_14 ?_
    obtain ⟨u1, e_u1, h⟩ := md_ob h
    have hb_u1 : u1 < 8 := (cd_ldRs e_u1).2.2
    refine cd_lR (f := 96) (o2 := 5) hj cx hw (by decide) (by decide) rfl (by decide) rfl rfl e_u1 dX3_addGrant_17 ?_
    refine lv_aload_n cx.1 cx.2.1 dX3_addGrant_18 rfl (lv_at hl 1 rfl) ?_
    obtain ⟨p2, e_p2, h⟩ := md_ob h
    refine hp_callVv (As := [.ref (ad 5 a1)]) (rest := []) cx hw (kc_X5_take l D cA E _ ad _ hj oq sgq sgv hE n σ0 u1 a1 (show _ < 196 by omega) (show _ < 196 by omega) p2 e_p2) (cwV 1 cx.2.2.2.2.2.1 (cd_giV cm_313 cm_314 cm_315 cm_306 cm_316) rfl rfl rfl hdc_X5_take ⟨Nat.le_of_ble_eq_true rfl, Nat.le_of_ble_eq_true rfl⟩) (cd_atO hj (by decide) (show _ < 196 by omega)) rfl rfl hl.1 rfl (Nat.le_of_ble_eq_true rfl) dX3_addGrant_19 ⟨Nat.le_refl _, Nat.le_refl _⟩ (fun u H locs hp hw => ?_)
    obtain ⟨ca, hj, rfl⟩ := hp
    refine lv_aload_n cx.1 cx.2.1 dX3_addGrant_22 rfl (lv_at hl 0 rfl) ?_
    refine cd_gA (o := 3) (k := 2) (f := 98) hj cx hw hic3 rfl ⟨by decide, rfl, by decide, rfl⟩ rfl (by decide) (List.mem_cons_of_mem _ cm_328) dX3_addGrant_23 ?_
    refine lv_aload_n cx.1 cx.2.1 dX3_addGrant_26 rfl (lv_at hl 0 rfl) ?_
    refine cd_gI (o := 3) (k := 10) (f := 106) hj cx hw hic3 rfl ⟨by decide, rfl, by decide, rfl⟩ rfl (by decide) (List.mem_cons_of_mem _ cm_327) dX3_addGrant_27 ?_
    refine lv_iconst (v := 0) cx.1 cx.2.1 dX3_addGrant_30 (by decide) ?_
    obtain ⟨σ3, e_σ3, h⟩ := md_ob h
    refine cd_sI (f := 98) hj cx hw (by decide) (by decide) rfl e_σ3 dX3_addGrant_31 (fun H locs hw => ?_)
    refine lv_aload_n cx.1 cx.2.1 dX3_addGrant_32 rfl (lv_at hl 0 rfl) ?_
    refine lv_dup cx.1 cx.2.1 dX3_addGrant_33 rfl ?_
    refine cd_gI (o := 3) (k := 10) (f := 106) hj cx hw hic3 rfl ⟨by decide, rfl, by decide, rfl⟩ rfl (by decide) (List.mem_cons_of_mem _ cm_327) dX3_addGrant_34 ?_
    refine lv_iconst (v := 1) cx.1 cx.2.1 dX3_addGrant_37 (by decide) ?_
    refine lv_iadd cx.1 cx.2.1 dX3_addGrant_38 ?_
    obtain ⟨σ4, e_σ4, h⟩ := md_ob h
    refine cd_pI (o := 3) (k := 10) (f := 106) hj cx hw hic3 rfl ⟨by decide, rfl, by decide, rfl⟩ tyX3_ok nmX3 rfl (by decide) rfl (List.mem_cons_of_mem _ cm_327) rfl e_σ4 dX3_addGrant_39 (fun H locs hw => ?_)
    exact hp_vret cx hw ((cd_ret hj h).2) dX3_addGrant_42
