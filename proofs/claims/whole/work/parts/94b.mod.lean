set_option maxHeartbeats 4000000 in
set_option maxRecDepth 100000 in
theorem km_X12_isSign (l : Launch) (D : va_G) (cA : Nat → ClassId) (E : hp_N) (sz : Nat) (ad : Nat → Nat) (hj : md_inj ad) (hE : md_E E) (n : Nat) (σ0 : md_S) (a1 : Int32) (p : (Int32 × md_S)) (h : f_X12_isSign n σ0 a1 = some p) : Met l yX12_isSign (Cond.code yX12_isSign cX12_isSign 2 (some .boolean) :: v_MOD) ({ frames := 1, cells := 0, slots := 0, locals := 20 }) (hp_Pc D vwCl (hp_Tl cA) E sz (md_pic cA ad σ0) [.ref (ad 137), .int a1]) (hp_Qi D vwCl (hp_Tl cA) sz (md_pic cA ad σ0) (fun r u => r = p.1 ∧ u = md_pic cA ad p.2)) 0 0 (hp_A (md_pic cA ad σ0) sz) := by
  refine hp_ofW (cc := cX12_isSign) (maxL := 2) (ret := (some .boolean)) (by decide) rfl (Nat.le_of_ble_eq_true rfl) ?_
  intro pp ee ss mm bb mt cd ls cx hsz hw hl
  have hl : lv_has ls 2 [(0, .ref (ad 137)), (1, .int a1)] := hl
  refine lv_aload_n cx.1 cx.2.1 dX12_isSign_0 rfl (lv_at hl 0 rfl) ?_
  obtain ⟨p1, e_p1, h⟩ := md_ob h
  refine hp_callVi (As := []) (rest := []) cx hw (km_X12_isFine l D cA E _ ad hj hE n σ0  p1 e_p1) (cwV 0 cx.2.2.2.2.2.1 (md_giV mm_64 mm_65 mm_66 mm_5 mm_67) rfl rfl rfl hd_X12_isFine ⟨Nat.le_of_ble_eq_true rfl, Nat.le_of_ble_eq_true rfl⟩) md_at0 rfl rfl hl.1 rfl (Nat.le_of_ble_eq_true rfl) dX12_isSign_1 ⟨Nat.le_refl _, Nat.le_refl _⟩ (fun r u H locs hp hw => ?_)
  obtain ⟨rfl, rfl⟩ := hp
  refine lv_if_eq (tgt := 27) cx.1 cx.2.1 dX12_isSign_4 (by decide) (fun c4 => ?_) (fun c4 => ?_)
  · have h := md_ip c4 h
    refine lv_iconst (v := 0) cx.1 cx.2.1 dX12_isSign_27 (by decide) ?_
    exact hp_zret cx hw (md_ret h) (by decide) dX12_isSign_28
  · have h := md_in c4 h
    refine lv_aload_n cx.1 cx.2.1 dX12_isSign_7 rfl (lv_at hl 0 rfl) ?_
    refine md_gI (k := 8) cx hw hin12c rfl (by decide) (List.mem_cons_of_mem _ mm_15) dX12_isSign_8 ?_
    refine lv_iconst (v := 5) cx.1 cx.2.1 dX12_isSign_11 (by decide) ?_
    refine lv_icmp_ne (tgt := 27) cx.1 cx.2.1 dX12_isSign_12 (by decide) (fun c12 => ?_) (fun c12 => ?_)
    · have h := md_in c12 h
      refine lv_iconst (v := 0) cx.1 cx.2.1 dX12_isSign_27 (by decide) ?_
      exact hp_zret cx hw (md_ret h) (by decide) dX12_isSign_28
    · have h := md_ip c12 h
      refine lv_aload_n cx.1 cx.2.1 dX12_isSign_15 rfl (lv_at hl 0 rfl) ?_
      refine md_gI (k := 11) cx hw hin12c rfl (by decide) (List.mem_cons_of_mem _ mm_53) dX12_isSign_16 ?_
      refine lv_iload_n cx.1 cx.2.1 dX12_isSign_19 rfl (lv_at hl 1 rfl) ?_
      refine lv_icmp_ne (tgt := 27) cx.1 cx.2.1 dX12_isSign_20 (by decide) (fun c20 => ?_) (fun c20 => ?_)
      · have h := md_in c20 h
        refine lv_iconst (v := 0) cx.1 cx.2.1 dX12_isSign_27 (by decide) ?_
        exact hp_zret cx hw (md_ret h) (by decide) dX12_isSign_28
      · have h := md_ip c20 h
        refine lv_iconst (v := 1) cx.1 cx.2.1 dX12_isSign_23 (by decide) ?_
        refine lv_goto (tgt := 28) cx.1 cx.2.1 dX12_isSign_24 (by decide) ?_
        exact hp_zret cx hw (md_ret h) (by decide) dX12_isSign_28
set_option maxHeartbeats 4000000 in
set_option maxRecDepth 100000 in
theorem km_X12_isKey (l : Launch) (D : va_G) (cA : Nat → ClassId) (E : hp_N) (sz : Nat) (ad : Nat → Nat) (hj : md_inj ad) (hE : md_E E) (n : Nat) (σ0 : md_S) (a1 : Int32) (p : (Int32 × md_S)) (h : f_X12_isKey n σ0 a1 = some p) : Met l yX12_isKey (Cond.code yX12_isKey cX12_isKey 2 (some .boolean) :: v_MOD) ({ frames := 1, cells := 0, slots := 0, locals := 20 }) (hp_Pc D vwCl (hp_Tl cA) E sz (md_pic cA ad σ0) [.ref (ad 137), .int a1]) (hp_Qi D vwCl (hp_Tl cA) sz (md_pic cA ad σ0) (fun r u => r = p.1 ∧ u = md_pic cA ad p.2)) 0 0 (hp_A (md_pic cA ad σ0) sz) := by
  refine hp_ofW (cc := cX12_isKey) (maxL := 2) (ret := (some .boolean)) (by decide) rfl (Nat.le_of_ble_eq_true rfl) ?_
  intro pp ee ss mm bb mt cd ls cx hsz hw hl
  have hl : lv_has ls 2 [(0, .ref (ad 137)), (1, .int a1)] := hl
  refine lv_aload_n cx.1 cx.2.1 dX12_isKey_0 rfl (lv_at hl 0 rfl) ?_
  obtain ⟨p1, e_p1, h⟩ := md_ob h
  refine hp_callVi (As := []) (rest := []) cx hw (km_X12_isFine l D cA E _ ad hj hE n σ0  p1 e_p1) (cwV 0 cx.2.2.2.2.2.1 (md_giV mm_64 mm_65 mm_66 mm_5 mm_67) rfl rfl rfl hd_X12_isFine ⟨Nat.le_of_ble_eq_true rfl, Nat.le_of_ble_eq_true rfl⟩) md_at0 rfl rfl hl.1 rfl (Nat.le_of_ble_eq_true rfl) dX12_isKey_1 ⟨Nat.le_refl _, Nat.le_refl _⟩ (fun r u H locs hp hw => ?_)
  obtain ⟨rfl, rfl⟩ := hp
  refine lv_if_eq (tgt := 27) cx.1 cx.2.1 dX12_isKey_4 (by decide) (fun c4 => ?_) (fun c4 => ?_)
  · have h := md_ip c4 h
    refine lv_iconst (v := 0) cx.1 cx.2.1 dX12_isKey_27 (by decide) ?_
    exact hp_zret cx hw (md_ret h) (by decide) dX12_isKey_28
  · have h := md_in c4 h
    refine lv_aload_n cx.1 cx.2.1 dX12_isKey_7 rfl (lv_at hl 0 rfl) ?_
    refine md_gI (k := 8) cx hw hin12c rfl (by decide) (List.mem_cons_of_mem _ mm_15) dX12_isKey_8 ?_
    refine lv_iconst (v := 2) cx.1 cx.2.1 dX12_isKey_11 (by decide) ?_
    refine lv_icmp_ne (tgt := 27) cx.1 cx.2.1 dX12_isKey_12 (by decide) (fun c12 => ?_) (fun c12 => ?_)
    · have h := md_in c12 h
      refine lv_iconst (v := 0) cx.1 cx.2.1 dX12_isKey_27 (by decide) ?_
      exact hp_zret cx hw (md_ret h) (by decide) dX12_isKey_28
    · have h := md_ip c12 h
      refine lv_aload_n cx.1 cx.2.1 dX12_isKey_15 rfl (lv_at hl 0 rfl) ?_
      refine md_gI (k := 11) cx hw hin12c rfl (by decide) (List.mem_cons_of_mem _ mm_53) dX12_isKey_16 ?_
      refine lv_iload_n cx.1 cx.2.1 dX12_isKey_19 rfl (lv_at hl 1 rfl) ?_
      refine lv_icmp_ne (tgt := 27) cx.1 cx.2.1 dX12_isKey_20 (by decide) (fun c20 => ?_) (fun c20 => ?_)
      · have h := md_in c20 h
        refine lv_iconst (v := 0) cx.1 cx.2.1 dX12_isKey_27 (by decide) ?_
        exact hp_zret cx hw (md_ret h) (by decide) dX12_isKey_28
      · have h := md_ip c20 h
        refine lv_iconst (v := 1) cx.1 cx.2.1 dX12_isKey_23 (by decide) ?_
        refine lv_goto (tgt := 28) cx.1 cx.2.1 dX12_isKey_24 (by decide) ?_
        exact hp_zret cx hw (md_ret h) (by decide) dX12_isKey_28
set_option maxHeartbeats 4000000 in
set_option maxRecDepth 100000 in
theorem km_X12_misfit (l : Launch) (D : va_G) (cA : Nat → ClassId) (E : hp_N) (sz : Nat) (ad : Nat → Nat) (hj : md_inj ad) (hE : md_E E) (n : Nat) (σ0 : md_S) (p : (Int32 × md_S)) (h : f_X12_misfit n σ0 = some p) : Met l yX12_misfit (Cond.code yX12_misfit cX12_misfit 1 none :: v_MOD) ({ frames := 1, cells := 0, slots := 0, locals := 22 }) (hp_Pc D vwCl (hp_Tl cA) E sz (md_pic cA ad σ0) [.ref (ad 137)]) (hp_Qv D vwCl (hp_Tl cA) sz (md_pic cA ad σ0) (fun u => u = md_pic cA ad p.2)) 0 0 (hp_A (md_pic cA ad σ0) sz) := by
  refine hp_ofW (cc := cX12_misfit) (maxL := 1) (ret := none) (by decide) rfl (Nat.le_of_ble_eq_true rfl) ?_
  intro pp ee ss mm bb mt cd ls cx hsz hw hl
  have hl : lv_has ls 1 [(0, .ref (ad 137))] := hl
  have J20 : ∀ (σ : md_S) (t0 : Int32) (t1 : Int32) (H : Heap) (locs : List Loc) (ls : Array Slot), f_X12_misfit_J20 n σ t0 t1 = some p → hp_w D vwCl (hp_Tl cA) E (hp_A (md_pic cA ad σ0) sz) ss H locs (md_pic cA ad σ) → lv_has ls 1 [] → W pp l ee ({ frames := 1, cells := 0, slots := 0, locals := 22 }) ss mm [.ref (ad 137)].toArray bb mt cd H locs 0 0 (MQ bb (hp_Qv D vwCl (hp_Tl cA) sz (md_pic cA ad σ0) (fun u => u = md_pic cA ad p.2)) [.ref (ad 137)].toArray ss 0 0 (hp_A (md_pic cA ad σ0) sz)) (F0 mm 20 ls [.int t0, .int t1, .ref (ad 137)]) := by
    intro σ t0 t1 H locs ls h hw hl
    obtain ⟨p1, e_p1, h⟩ := md_ob h
    refine hp_callVv (As := [.int t1, .int t0]) (rest := []) cx hw (km_X12_failsAt l D cA E _ ad hj hE n σ t1 t0 p1 e_p1) (cwV 2 cx.2.2.2.2.2.1 (md_giV mm_17 mm_18 mm_19 mm_5 mm_20) rfl rfl rfl hd_X12_failsAt ⟨Nat.le_of_ble_eq_true rfl, Nat.le_of_ble_eq_true rfl⟩) md_at0 rfl rfl hl.1 rfl (Nat.le_of_ble_eq_true rfl) dX12_misfit_20 ⟨Nat.le_refl _, Nat.le_refl _⟩ (fun u H locs hp hw => ?_)
    obtain rfl := hp
    exact hp_vret cx hw (md_retv h) dX12_misfit_23
  refine lv_aload_n cx.1 cx.2.1 dX12_misfit_0 rfl (lv_at hl 0 rfl) ?_
  refine lv_iconst (v := 1) cx.1 cx.2.1 dX12_misfit_1 (by decide) ?_
  refine lv_aload_n cx.1 cx.2.1 dX12_misfit_2 rfl (lv_at hl 0 rfl) ?_
  refine md_gI (k := 8) cx hw hin12c rfl (by decide) (List.mem_cons_of_mem _ mm_15) dX12_misfit_3 ?_
  refine lv_if_ne (tgt := 16) cx.1 cx.2.1 dX12_misfit_6 (by decide) (fun c6 => ?_) (fun c6 => ?_)
  · have h := md_in c6 h
    refine lv_aload_n cx.1 cx.2.1 dX12_misfit_16 rfl (lv_at hl 0 rfl) ?_
    refine md_gI (k := 9) cx hw hin12c rfl (by decide) (List.mem_cons_of_mem _ mm_16) dX12_misfit_17 ?_
    exact J20 σ0 ((mI σ0 9)) 1 _ _ _ h hw (lv_sub hl [] rfl)
  · have h := md_ip c6 h
    refine lv_aload_n cx.1 cx.2.1 dX12_misfit_9 rfl (lv_at hl 0 rfl) ?_
    refine md_gI (k := 4) cx hw hin12c rfl (by decide) (List.mem_cons_of_mem _ mm_7) dX12_misfit_10 ?_
    refine lv_goto (tgt := 20) cx.1 cx.2.1 dX12_misfit_13 (by decide) ?_
    exact J20 σ0 ((mI σ0 4)) 1 _ _ _ h hw (lv_sub hl [] rfl)
set_option maxHeartbeats 4000000 in
set_option maxRecDepth 100000 in
theorem km_X12_sign (l : Launch) (D : va_G) (cA : Nat → ClassId) (E : hp_N) (sz : Nat) (ad : Nat → Nat) (hj : md_inj ad) (hE : md_E E) (n : Nat) (σ0 : md_S) (a1 : Int32) (p : (Int32 × md_S)) (h : f_X12_sign n σ0 a1 = some p) : Met l yX12_sign (Cond.code yX12_sign cX12_sign 2 none :: v_MOD) ({ frames := 8, cells := 0, slots := 0, locals := 198 }) (hp_Pc D vwCl (hp_Tl cA) E sz (md_pic cA ad σ0) [.ref (ad 137), .int a1]) (hp_Qv D vwCl (hp_Tl cA) sz (md_pic cA ad σ0) (fun u => u = md_pic cA ad p.2)) 0 0 (hp_A (md_pic cA ad σ0) sz) := by
  refine hp_ofW (cc := cX12_sign) (maxL := 2) (ret := none) (by decide) rfl (Nat.le_of_ble_eq_true rfl) ?_
  intro pp ee ss mm bb mt cd ls cx hsz hw hl
  have hl : lv_has ls 2 [(0, .ref (ad 137)), (1, .int a1)] := hl
  refine lv_aload_n cx.1 cx.2.1 dX12_sign_0 rfl (lv_at hl 0 rfl) ?_
  refine lv_iload_n cx.1 cx.2.1 dX12_sign_1 rfl (lv_at hl 1 rfl) ?_
  obtain ⟨p1, e_p1, h⟩ := md_ob h
  refine hp_callVi (As := [.int a1]) (rest := []) cx hw (km_X12_isSign l D cA E _ ad hj hE n σ0 a1 p1 e_p1) (cwV 1 cx.2.2.2.2.2.1 (md_giV mm_84 mm_85 mm_86 mm_5 mm_87) rfl rfl rfl hd_X12_isSign ⟨Nat.le_of_ble_eq_true rfl, Nat.le_of_ble_eq_true rfl⟩) md_at0 rfl rfl hl.1 rfl (Nat.le_of_ble_eq_true rfl) dX12_sign_2 ⟨Nat.le_refl _, Nat.le_refl _⟩ (fun r u H locs hp hw => ?_)
  obtain ⟨rfl, rfl⟩ := hp
  refine lv_if_eq (tgt := 15) cx.1 cx.2.1 dX12_sign_5 (by decide) (fun c5 => ?_) (fun c5 => ?_)
  · have h := md_ip c5 h
    refine lv_aload_n cx.1 cx.2.1 dX12_sign_15 rfl (lv_at hl 0 rfl) ?_
    obtain ⟨p2, e_p2, h⟩ := md_ob h
    refine hp_callVi (As := []) (rest := []) cx hw (km_X12_isFine l D cA E _ ad hj hE n p1.2  p2 e_p2) (cwV 0 cx.2.2.2.2.2.1 (md_giV mm_64 mm_65 mm_66 mm_5 mm_67) rfl rfl rfl hd_X12_isFine ⟨Nat.le_of_ble_eq_true rfl, Nat.le_of_ble_eq_true rfl⟩) md_at0 rfl rfl hl.1 rfl (Nat.le_of_ble_eq_true rfl) dX12_sign_16 ⟨Nat.le_refl _, Nat.le_refl _⟩ (fun r u H locs hp hw => ?_)
    obtain ⟨rfl, rfl⟩ := hp
    refine lv_if_eq (tgt := 26) cx.1 cx.2.1 dX12_sign_19 (by decide) (fun c19 => ?_) (fun c19 => ?_)
    · have h := md_ip c19 h
      exact hp_vret cx hw (md_retv h) dX12_sign_26
    · have h := md_in c19 h
      refine lv_aload_n cx.1 cx.2.1 dX12_sign_22 rfl (lv_at hl 0 rfl) ?_
      obtain ⟨p3, e_p3, h⟩ := md_ob h
      refine hp_callVv (As := []) (rest := []) cx hw (km_X12_misfit l D cA E _ ad hj hE n p2.2  p3 e_p3) (cwV 0 cx.2.2.2.2.2.1 (md_giV mm_88 mm_89 mm_90 mm_5 mm_91) rfl rfl rfl hd_X12_misfit ⟨Nat.le_of_ble_eq_true rfl, Nat.le_of_ble_eq_true rfl⟩) md_at0 rfl rfl hl.1 rfl (Nat.le_of_ble_eq_true rfl) dX12_sign_23 ⟨Nat.le_refl _, Nat.le_refl _⟩ (fun u H locs hp hw => ?_)
      obtain rfl := hp
      exact hp_vret cx hw (md_retv h) dX12_sign_26
  · have h := md_in c5 h
    refine lv_aload_n cx.1 cx.2.1 dX12_sign_8 rfl (lv_at hl 0 rfl) ?_
    obtain ⟨p4, e_p4, h⟩ := md_ob h
    refine hp_callVv (As := []) (rest := []) cx hw (km_X12_next l D cA E _ ad hj hE n p1.2  p4 e_p4) (cwV 0 cx.2.2.2.2.2.1 (md_giV mm_92 mm_93 mm_94 mm_5 mm_95) rfl rfl rfl hd_X12_next ⟨Nat.le_of_ble_eq_true rfl, Nat.le_of_ble_eq_true rfl⟩) md_at0 rfl rfl hl.1 rfl (Nat.le_of_ble_eq_true rfl) dX12_sign_9 ⟨Nat.le_refl _, Nat.le_refl _⟩ (fun u H locs hp hw => ?_)
    obtain rfl := hp
    refine lv_goto (tgt := 26) cx.1 cx.2.1 dX12_sign_12 (by decide) ?_
    exact hp_vret cx hw (md_retv h) dX12_sign_26
set_option maxHeartbeats 4000000 in
set_option maxRecDepth 100000 in
theorem km_X12_key (l : Launch) (D : va_G) (cA : Nat → ClassId) (E : hp_N) (sz : Nat) (ad : Nat → Nat) (hj : md_inj ad) (hE : md_E E) (n : Nat) (σ0 : md_S) (a1 : Int32) (p : (Int32 × md_S)) (h : f_X12_key n σ0 a1 = some p) : Met l yX12_key (Cond.code yX12_key cX12_key 2 none :: v_MOD) ({ frames := 8, cells := 0, slots := 0, locals := 198 }) (hp_Pc D vwCl (hp_Tl cA) E sz (md_pic cA ad σ0) [.ref (ad 137), .int a1]) (hp_Qv D vwCl (hp_Tl cA) sz (md_pic cA ad σ0) (fun u => u = md_pic cA ad p.2)) 0 0 (hp_A (md_pic cA ad σ0) sz) := by
  refine hp_ofW (cc := cX12_key) (maxL := 2) (ret := none) (by decide) rfl (Nat.le_of_ble_eq_true rfl) ?_
  intro pp ee ss mm bb mt cd ls cx hsz hw hl
  have hl : lv_has ls 2 [(0, .ref (ad 137)), (1, .int a1)] := hl
  refine lv_aload_n cx.1 cx.2.1 dX12_key_0 rfl (lv_at hl 0 rfl) ?_
  refine lv_iload_n cx.1 cx.2.1 dX12_key_1 rfl (lv_at hl 1 rfl) ?_
  obtain ⟨p1, e_p1, h⟩ := md_ob h
  refine hp_callVi (As := [.int a1]) (rest := []) cx hw (km_X12_isKey l D cA E _ ad hj hE n σ0 a1 p1 e_p1) (cwV 1 cx.2.2.2.2.2.1 (md_giV mm_96 mm_97 mm_98 mm_5 mm_99) rfl rfl rfl hd_X12_isKey ⟨Nat.le_of_ble_eq_true rfl, Nat.le_of_ble_eq_true rfl⟩) md_at0 rfl rfl hl.1 rfl (Nat.le_of_ble_eq_true rfl) dX12_key_2 ⟨Nat.le_refl _, Nat.le_refl _⟩ (fun r u H locs hp hw => ?_)
  obtain ⟨rfl, rfl⟩ := hp
  refine lv_if_eq (tgt := 15) cx.1 cx.2.1 dX12_key_5 (by decide) (fun c5 => ?_) (fun c5 => ?_)
  · have h := md_ip c5 h
    refine lv_aload_n cx.1 cx.2.1 dX12_key_15 rfl (lv_at hl 0 rfl) ?_
    obtain ⟨p2, e_p2, h⟩ := md_ob h
    refine hp_callVi (As := []) (rest := []) cx hw (km_X12_isFine l D cA E _ ad hj hE n p1.2  p2 e_p2) (cwV 0 cx.2.2.2.2.2.1 (md_giV mm_64 mm_65 mm_66 mm_5 mm_67) rfl rfl rfl hd_X12_isFine ⟨Nat.le_of_ble_eq_true rfl, Nat.le_of_ble_eq_true rfl⟩) md_at0 rfl rfl hl.1 rfl (Nat.le_of_ble_eq_true rfl) dX12_key_16 ⟨Nat.le_refl _, Nat.le_refl _⟩ (fun r u H locs hp hw => ?_)
    obtain ⟨rfl, rfl⟩ := hp
    refine lv_if_eq (tgt := 26) cx.1 cx.2.1 dX12_key_19 (by decide) (fun c19 => ?_) (fun c19 => ?_)
    · have h := md_ip c19 h
      exact hp_vret cx hw (md_retv h) dX12_key_26
    · have h := md_in c19 h
      refine lv_aload_n cx.1 cx.2.1 dX12_key_22 rfl (lv_at hl 0 rfl) ?_
      obtain ⟨p3, e_p3, h⟩ := md_ob h
      refine hp_callVv (As := []) (rest := []) cx hw (km_X12_misfit l D cA E _ ad hj hE n p2.2  p3 e_p3) (cwV 0 cx.2.2.2.2.2.1 (md_giV mm_88 mm_89 mm_90 mm_5 mm_91) rfl rfl rfl hd_X12_misfit ⟨Nat.le_of_ble_eq_true rfl, Nat.le_of_ble_eq_true rfl⟩) md_at0 rfl rfl hl.1 rfl (Nat.le_of_ble_eq_true rfl) dX12_key_23 ⟨Nat.le_refl _, Nat.le_refl _⟩ (fun u H locs hp hw => ?_)
      obtain rfl := hp
      exact hp_vret cx hw (md_retv h) dX12_key_26
  · have h := md_in c5 h
    refine lv_aload_n cx.1 cx.2.1 dX12_key_8 rfl (lv_at hl 0 rfl) ?_
    obtain ⟨p4, e_p4, h⟩ := md_ob h
    refine hp_callVv (As := []) (rest := []) cx hw (km_X12_next l D cA E _ ad hj hE n p1.2  p4 e_p4) (cwV 0 cx.2.2.2.2.2.1 (md_giV mm_92 mm_93 mm_94 mm_5 mm_95) rfl rfl rfl hd_X12_next ⟨Nat.le_of_ble_eq_true rfl, Nat.le_of_ble_eq_true rfl⟩) md_at0 rfl rfl hl.1 rfl (Nat.le_of_ble_eq_true rfl) dX12_key_9 ⟨Nat.le_refl _, Nat.le_refl _⟩ (fun u H locs hp hw => ?_)
    obtain rfl := hp
    refine lv_goto (tgt := 26) cx.1 cx.2.1 dX12_key_12 (by decide) ?_
    exact hp_vret cx hw (md_retv h) dX12_key_26
set_option maxHeartbeats 4000000 in
set_option maxRecDepth 100000 in
theorem km_X12_isName (l : Launch) (D : va_G) (cA : Nat → ClassId) (E : hp_N) (sz : Nat) (ad : Nat → Nat) (hj : md_inj ad) (hE : md_E E) (n : Nat) (σ0 : md_S) (p : (Int32 × md_S)) (h : f_X12_isName n σ0 = some p) : Met l yX12_isName (Cond.code yX12_isName cX12_isName 1 (some .boolean) :: v_MOD) ({ frames := 2, cells := 0, slots := 0, locals := 42 }) (hp_Pc D vwCl (hp_Tl cA) E sz (md_pic cA ad σ0) [.ref (ad 137)]) (hp_Qi D vwCl (hp_Tl cA) sz (md_pic cA ad σ0) (fun r u => r = p.1 ∧ u = md_pic cA ad p.2)) 0 0 (hp_A (md_pic cA ad σ0) sz) := by
  refine hp_ofW (cc := cX12_isName) (maxL := 1) (ret := (some .boolean)) (by decide) rfl (Nat.le_of_ble_eq_true rfl) ?_
  intro pp ee ss mm bb mt cd ls cx hsz hw hl
  have hl : lv_has ls 1 [(0, .ref (ad 137))] := hl
  have J19 : ∀ (σ : md_S) (H : Heap) (locs : List Loc) (ls : Array Slot), f_X12_isName_J19 n σ = some p → hp_w D vwCl (hp_Tl cA) E (hp_A (md_pic cA ad σ0) sz) ss H locs (md_pic cA ad σ) → lv_has ls 1 [(0, .ref (ad 137))] → W pp l ee ({ frames := 2, cells := 0, slots := 0, locals := 42 }) ss mm [.ref (ad 137)].toArray bb mt cd H locs 0 0 (MQ bb (hp_Qi D vwCl (hp_Tl cA) sz (md_pic cA ad σ0) (fun r u => r = p.1 ∧ u = md_pic cA ad p.2)) [.ref (ad 137)].toArray ss 0 0 (hp_A (md_pic cA ad σ0) sz)) (F0 mm 19 ls []) := by
    intro σ H locs ls h hw hl
    refine lv_aload_n cx.1 cx.2.1 dX12_isName_19 rfl (lv_at hl 0 rfl) ?_
    obtain ⟨p1, e_p1, h⟩ := md_ob h
    refine hp_callVi (As := []) (rest := []) cx hw (km_X12_isFine l D cA E _ ad hj hE n σ  p1 e_p1) (cwV 0 cx.2.2.2.2.2.1 (md_giV mm_64 mm_65 mm_66 mm_5 mm_67) rfl rfl rfl hd_X12_isFine ⟨Nat.le_of_ble_eq_true rfl, Nat.le_of_ble_eq_true rfl⟩) md_at0 rfl rfl hl.1 rfl (Nat.le_of_ble_eq_true rfl) dX12_isName_20 ⟨Nat.le_refl _, Nat.le_refl _⟩ (fun r u H locs hp hw => ?_)
    obtain ⟨rfl, rfl⟩ := hp
    obtain ⟨z2, e_z2, h⟩ := md_ob h
    rw [(md_zbs e_z2).1] at h
    exact hp_zret cx hw (md_ret h) (md_nbn (md_zbs e_z2).2) dX12_isName_23
  refine lv_aload_n cx.1 cx.2.1 dX12_isName_0 rfl (lv_at hl 0 rfl) ?_
  obtain ⟨p3, e_p3, h⟩ := md_ob h
  refine hp_callVi (As := []) (rest := []) cx hw (km_X12_isFine l D cA E _ ad hj hE n σ0  p3 e_p3) (cwV 0 cx.2.2.2.2.2.1 (md_giV mm_64 mm_65 mm_66 mm_5 mm_67) rfl rfl rfl hd_X12_isFine ⟨Nat.le_of_ble_eq_true rfl, Nat.le_of_ble_eq_true rfl⟩) md_at0 rfl rfl hl.1 rfl (Nat.le_of_ble_eq_true rfl) dX12_isName_1 ⟨Nat.le_refl _, Nat.le_refl _⟩ (fun r u H locs hp hw => ?_)
  obtain ⟨rfl, rfl⟩ := hp
  refine lv_if_eq (tgt := 19) cx.1 cx.2.1 dX12_isName_4 (by decide) (fun c4 => ?_) (fun c4 => ?_)
  · have h := md_ip c4 h
    exact J19 p3.2 _ _ _ h hw (lv_sub hl [0] rfl)
  · have h := md_in c4 h
    refine lv_aload_n cx.1 cx.2.1 dX12_isName_7 rfl (lv_at hl 0 rfl) ?_
    refine md_gI (k := 8) cx hw hin12c rfl (by decide) (List.mem_cons_of_mem _ mm_15) dX12_isName_8 ?_
    refine lv_iconst (v := 1) cx.1 cx.2.1 dX12_isName_11 (by decide) ?_
    refine lv_icmp_eq (tgt := 19) cx.1 cx.2.1 dX12_isName_12 (by decide) (fun c12 => ?_) (fun c12 => ?_)
    · have h := md_ip c12 h
      exact J19 p3.2 _ _ _ h hw (lv_sub hl [0] rfl)
    · have h := md_in c12 h
      refine lv_aload_n cx.1 cx.2.1 dX12_isName_15 rfl (lv_at hl 0 rfl) ?_
      obtain ⟨p4, e_p4, h⟩ := md_ob h
      refine hp_callVv (As := []) (rest := []) cx hw (km_X12_misfit l D cA E _ ad hj hE n p3.2  p4 e_p4) (cwV 0 cx.2.2.2.2.2.1 (md_giV mm_88 mm_89 mm_90 mm_5 mm_91) rfl rfl rfl hd_X12_misfit ⟨Nat.le_of_ble_eq_true rfl, Nat.le_of_ble_eq_true rfl⟩) md_at0 rfl rfl hl.1 rfl (Nat.le_of_ble_eq_true rfl) dX12_isName_16 ⟨Nat.le_refl _, Nat.le_refl _⟩ (fun u H locs hp hw => ?_)
      obtain rfl := hp
      exact J19 p4.2 _ _ _ h hw (lv_sub hl [0] rfl)
set_option maxHeartbeats 4000000 in
set_option maxRecDepth 100000 in
theorem km_X12_keepPattern (l : Launch) (D : va_G) (cA : Nat → ClassId) (E : hp_N) (sz : Nat) (ad : Nat → Nat) (hj : md_inj ad) (hE : md_E E) (n : Nat) (σ0 : md_S) (a1 : Int32) (p : (Int32 × md_S)) (h : f_X12_keepPattern n σ0 a1 = some p) : Met l yX12_keepPattern (Cond.code yX12_keepPattern cX12_keepPattern 3 none :: v_MOD) ({ frames := 0, cells := 0, slots := 0, locals := 0 }) (hp_Pc D vwCl (hp_Tl cA) E sz (md_pic cA ad σ0) [.ref (ad 137), .int a1]) (hp_Qv D vwCl (hp_Tl cA) sz (md_pic cA ad σ0) (fun u => u = md_pic cA ad p.2)) 0 0 (hp_A (md_pic cA ad σ0) sz) := by
  refine hp_ofW (cc := cX12_keepPattern) (maxL := 3) (ret := none) (by decide) rfl (Nat.le_of_ble_eq_true rfl) ?_
  intro pp ee ss mm bb mt cd ls cx hsz hw hl
  have hl : lv_has ls 3 [(0, .ref (ad 137)), (1, .int a1)] := hl
  refine lv_iconst (v := 0) cx.1 cx.2.1 dX12_keepPattern_0 (by decide) ?_
  refine lv_istore_n (lv' := [(2, .int 0), (0, .ref (ad 137)), (1, .int a1)]) cx.1 cx.2.1 dX12_keepPattern_1 rfl hl (by decide) rfl (fun ls hl => ?_)
  have L2 : ∀ (j : Nat) (σ : md_S) (l1 : Int32) (l2 : Int32) (q : (md_S × Int32)) (H : Heap) (locs : List Loc) (ls : Array Slot), f_X12_keepPattern_L2 n l1 j σ l2 = some q → hp_w D vwCl (hp_Tl cA) E (hp_A (md_pic cA ad σ0) sz) ss H locs (md_pic cA ad σ) → lv_has ls 3 [(0, .ref (ad 137)), (1, .int l1), (2, .int l2)] → (∀ (H : Heap) (locs : List Loc) (ls : Array Slot), hp_w D vwCl (hp_Tl cA) E (hp_A (md_pic cA ad σ0) sz) ss H locs (md_pic cA ad q.1) → lv_has ls 3 [(0, .ref (ad 137)), (1, .int l1)] → W pp l ee ({ frames := 0, cells := 0, slots := 0, locals := 0 }) ss mm [.ref (ad 137), .int a1].toArray bb mt cd H locs 0 0 (MQ bb (hp_Qv D vwCl (hp_Tl cA) sz (md_pic cA ad σ0) (fun u => u = md_pic cA ad p.2)) [.ref (ad 137), .int a1].toArray ss 0 0 (hp_A (md_pic cA ad σ0) sz)) (F0 mm 32 ls [])) → W pp l ee ({ frames := 0, cells := 0, slots := 0, locals := 0 }) ss mm [.ref (ad 137), .int a1].toArray bb mt cd H locs 0 0 (MQ bb (hp_Qv D vwCl (hp_Tl cA) sz (md_pic cA ad σ0) (fun u => u = md_pic cA ad p.2)) [.ref (ad 137), .int a1].toArray ss 0 0 (hp_A (md_pic cA ad σ0) sz)) (F0 mm 2 ls []) := by
    intro j
    induction j with
    | zero => intro σ l1 l2 q H locs ls h; exact nomatch h
    | succ j ih =>
      intro σ l1 l2 q H locs ls h hw hl K
      refine lv_iload_n cx.1 cx.2.1 dX12_keepPattern_2 rfl (lv_at hl 2 rfl) ?_
      refine lv_aload_n cx.1 cx.2.1 dX12_keepPattern_3 rfl (lv_at hl 0 rfl) ?_
      refine md_gI (k := 14) cx hw hin12c rfl (by decide) (List.mem_cons_of_mem _ mm_60) dX12_keepPattern_4 ?_
      refine lv_icmp_ge (tgt := 32) cx.1 cx.2.1 dX12_keepPattern_7 (by decide) (fun c7 => ?_) (fun c7 => ?_)
      · have h := md_ip c7 h
        obtain rfl := Option.some.inj h
        exact K _ _ _ hw (lv_sub hl [0, 1] rfl)
      · have h := md_in c7 h
        refine lv_aload_n cx.1 cx.2.1 dX12_keepPattern_10 rfl (lv_at hl 0 rfl) ?_
        refine md_gR (k := 17) cx hw hin12c (by decide) (by decide) (List.mem_cons_of_mem _ mm_100) dX12_keepPattern_11 ?_
        refine lv_iconst (v := 5) cx.1 cx.2.1 dX12_keepPattern_14 (by decide) ?_
        refine lv_iload_n cx.1 cx.2.1 dX12_keepPattern_15 rfl (lv_at hl 1 rfl) ?_
        refine lv_imul cx.1 cx.2.1 dX12_keepPattern_16 ?_
        refine lv_iload_n cx.1 cx.2.1 dX12_keepPattern_17 rfl (lv_at hl 2 rfl) ?_
        refine lv_iadd cx.1 cx.2.1 dX12_keepPattern_18 ?_
        refine lv_aload_n cx.1 cx.2.1 dX12_keepPattern_19 rfl (lv_at hl 0 rfl) ?_
        refine md_gR (k := 13) cx hw hin12c (by decide) (by decide) (List.mem_cons_of_mem _ mm_63) dX12_keepPattern_20 ?_
        refine lv_iload_n cx.1 cx.2.1 dX12_keepPattern_23 rfl (lv_at hl 2 rfl) ?_
        obtain ⟨v1, e_v1, h⟩ := md_ob h
        refine md_lJ (k := 13) hj cx hw (by decide) rfl rfl rfl e_v1 dX12_keepPattern_24 ?_
        obtain ⟨σ2, e_σ2, h⟩ := md_ob h
        refine md_sJ (k := 17) hj cx hw (by decide) rfl rfl rfl e_σ2 dX12_keepPattern_25 (fun H locs hw => ?_)
        refine lv_iinc (v := (l2 + 1)) (lv' := [(2, .int (l2 + 1)), (0, .ref (ad 137)), (1, .int l1)]) cx.1 cx.2.1 dX12_keepPattern_26 hl (k := 2) rfl rfl (by decide) rfl (fun ls hl => ?_)
        refine lv_goto (tgt := 2) cx.1 cx.2.1 dX12_keepPattern_29 (by decide) ?_
        exact ih σ2 l1 ((l2 + 1)) q _ _ _ h hw (lv_sub hl [1, 2, 0] rfl) K
  obtain ⟨q3, e_q3, h⟩ := md_ob h
  refine L2 n σ0 a1 0 q3 _ _ _ e_q3 hw (lv_sub hl [1, 2, 0] rfl) (fun H locs ls hw hl => ?_)
  refine lv_aload_n cx.1 cx.2.1 dX12_keepPattern_32 rfl (lv_at hl 0 rfl) ?_
  refine md_gR (k := 18) cx hw hin12c (by decide) (by decide) (List.mem_cons_of_mem _ mm_101) dX12_keepPattern_33 ?_
  refine lv_iload_n cx.1 cx.2.1 dX12_keepPattern_36 rfl (lv_at hl 1 rfl) ?_
  refine lv_aload_n cx.1 cx.2.1 dX12_keepPattern_37 rfl (lv_at hl 0 rfl) ?_
  refine md_gI (k := 14) cx hw hin12c rfl (by decide) (List.mem_cons_of_mem _ mm_60) dX12_keepPattern_38 ?_
  obtain ⟨σ4, e_σ4, h⟩ := md_ob h
  refine md_sI (k := 18) hj cx hw (by decide) rfl rfl rfl e_σ4 dX12_keepPattern_41 (fun H locs hw => ?_)
  refine lv_aload_n cx.1 cx.2.1 dX12_keepPattern_42 rfl (lv_at hl 0 rfl) ?_
  refine md_gR (k := 19) cx hw hin12c (by decide) (by decide) (List.mem_cons_of_mem _ mm_102) dX12_keepPattern_43 ?_
  refine lv_iload_n cx.1 cx.2.1 dX12_keepPattern_46 rfl (lv_at hl 1 rfl) ?_
  refine lv_aload_n cx.1 cx.2.1 dX12_keepPattern_47 rfl (lv_at hl 0 rfl) ?_
  refine md_gI (k := 15) cx hw hin12c rfl (by decide) (List.mem_cons_of_mem _ mm_61) dX12_keepPattern_48 ?_
  obtain ⟨σ5, e_σ5, h⟩ := md_ob h
  refine md_sI (k := 19) hj cx hw (by decide) rfl rfl rfl e_σ5 dX12_keepPattern_51 (fun H locs hw => ?_)
  exact hp_vret cx hw (md_retv h) dX12_keepPattern_52
set_option maxHeartbeats 4000000 in
set_option maxRecDepth 100000 in
theorem km_X12_covers (l : Launch) (D : va_G) (cA : Nat → ClassId) (E : hp_N) (sz : Nat) (ad : Nat → Nat) (hj : md_inj ad) (hE : md_E E) (n : Nat) (σ0 : md_S) (a1 : Int32) (a2 : Int32) (p : (Int32 × md_S)) (h : f_X12_covers n σ0 a1 a2 = some p) : Met l yX12_covers (Cond.code yX12_covers cX12_covers 7 (some .boolean) :: v_MOD) ({ frames := 0, cells := 0, slots := 0, locals := 0 }) (hp_Pc D vwCl (hp_Tl cA) E sz (md_pic cA ad σ0) [.ref (ad 137), .int a1, .int a2]) (hp_Qi D vwCl (hp_Tl cA) sz (md_pic cA ad σ0) (fun r u => r = p.1 ∧ u = md_pic cA ad p.2)) 0 0 (hp_A (md_pic cA ad σ0) sz) := by
  refine hp_ofW (cc := cX12_covers) (maxL := 7) (ret := (some .boolean)) (by decide) rfl (Nat.le_of_ble_eq_true rfl) ?_
  intro pp ee ss mm bb mt cd ls cx hsz hw hl
  have hl : lv_has ls 7 [(0, .ref (ad 137)), (1, .int a1), (2, .int a2)] := hl
  have J131 : ∀ (σ : md_S) (H : Heap) (locs : List Loc) (ls : Array Slot), f_X12_covers_J131 n σ = some p → hp_w D vwCl (hp_Tl cA) E (hp_A (md_pic cA ad σ0) sz) ss H locs (md_pic cA ad σ) → lv_has ls 7 [] → W pp l ee ({ frames := 0, cells := 0, slots := 0, locals := 0 }) ss mm [.ref (ad 137), .int a1, .int a2].toArray bb mt cd H locs 0 0 (MQ bb (hp_Qi D vwCl (hp_Tl cA) sz (md_pic cA ad σ0) (fun r u => r = p.1 ∧ u = md_pic cA ad p.2)) [.ref (ad 137), .int a1, .int a2].toArray ss 0 0 (hp_A (md_pic cA ad σ0) sz)) (F0 mm 131 ls []) := by
    intro σ H locs ls h hw hl
    refine lv_iconst (v := 1) cx.1 cx.2.1 dX12_covers_131 (by decide) ?_
    refine lv_goto (tgt := 136) cx.1 cx.2.1 dX12_covers_132 (by decide) ?_
    exact hp_zret cx hw (md_ret h) (by decide) dX12_covers_136
  have J26 : ∀ (σ : md_S) (l1 : Int32) (l2 : Int32) (l3 : Int32) (l4 : Int32) (t0 : Int32) (H : Heap) (locs : List Loc) (ls : Array Slot), f_X12_covers_J26 n σ l1 l2 l3 l4 t0 = some p → hp_w D vwCl (hp_Tl cA) E (hp_A (md_pic cA ad σ0) sz) ss H locs (md_pic cA ad σ) → lv_has ls 7 [(0, .ref (ad 137)), (1, .int l1), (2, .int l2), (3, .int l3), (4, .int l4)] → W pp l ee ({ frames := 0, cells := 0, slots := 0, locals := 0 }) ss mm [.ref (ad 137), .int a1, .int a2].toArray bb mt cd H locs 0 0 (MQ bb (hp_Qi D vwCl (hp_Tl cA) sz (md_pic cA ad σ0) (fun r u => r = p.1 ∧ u = md_pic cA ad p.2)) [.ref (ad 137), .int a1, .int a2].toArray ss 0 0 (hp_A (md_pic cA ad σ0) sz)) (F0 mm 26 ls [.int t0]) := by
    intro σ l1 l2 l3 l4 t0 H locs ls h hw hl
    refine lv_istore (lv' := [(5, .int t0), (0, .ref (ad 137)), (1, .int l1), (2, .int l2), (3, .int l3), (4, .int l4)]) cx.1 cx.2.1 dX12_covers_26 hl (by decide) rfl (fun ls hl => ?_)
    refine lv_iconst (v := 0) cx.1 cx.2.1 dX12_covers_28 (by decide) ?_
    refine lv_istore (lv' := [(6, .int 0), (5, .int t0), (0, .ref (ad 137)), (1, .int l1), (2, .int l2), (3, .int l3), (4, .int l4)]) cx.1 cx.2.1 dX12_covers_29 hl (by decide) rfl (fun ls hl => ?_)
    have L31 : ∀ (j : Nat) (σ : md_S) (l1 : Int32) (l2 : Int32) (l3 : Int32) (l4 : Int32) (l5 : Int32) (l6 : Int32) (q : (md_S × Int32 × Int32)) (H : Heap) (locs : List Loc) (ls : Array Slot), f_X12_covers_L31 n l1 l2 l3 l4 j σ l5 l6 = some q → hp_w D vwCl (hp_Tl cA) E (hp_A (md_pic cA ad σ0) sz) ss H locs (md_pic cA ad σ) → lv_has ls 7 [(0, .ref (ad 137)), (1, .int l1), (2, .int l2), (3, .int l3), (4, .int l4), (5, .int l5), (6, .int l6)] → (∀ (H : Heap) (locs : List Loc) (ls : Array Slot), hp_w D vwCl (hp_Tl cA) E (hp_A (md_pic cA ad σ0) sz) ss H locs (md_pic cA ad q.1) → lv_has ls 7 [(0, .ref (ad 137)), (1, .int l1), (3, .int l3), (4, .int l4), (5, .int q.2.1)] → W pp l ee ({ frames := 0, cells := 0, slots := 0, locals := 0 }) ss mm [.ref (ad 137), .int a1, .int a2].toArray bb mt cd H locs 0 0 (MQ bb (hp_Qi D vwCl (hp_Tl cA) sz (md_pic cA ad σ0) (fun r u => r = p.1 ∧ u = md_pic cA ad p.2)) [.ref (ad 137), .int a1, .int a2].toArray ss 0 0 (hp_A (md_pic cA ad σ0) sz)) (F0 mm 81 ls [])) → W pp l ee ({ frames := 0, cells := 0, slots := 0, locals := 0 }) ss mm [.ref (ad 137), .int a1, .int a2].toArray bb mt cd H locs 0 0 (MQ bb (hp_Qi D vwCl (hp_Tl cA) sz (md_pic cA ad σ0) (fun r u => r = p.1 ∧ u = md_pic cA ad p.2)) [.ref (ad 137), .int a1, .int a2].toArray ss 0 0 (hp_A (md_pic cA ad σ0) sz)) (F0 mm 31 ls []) := by
      intro j
      induction j with
      | zero => intro σ l1 l2 l3 l4 l5 l6 q H locs ls h; exact nomatch h
      | succ j ih =>
        intro σ l1 l2 l3 l4 l5 l6 q H locs ls h hw hl K
        have J73 : ∀ (σ : md_S) (l6 : Int32) (t0 : Int32) (H : Heap) (locs : List Loc) (ls : Array Slot), f_X12_covers_J73 n l1 l2 l3 l4 (f_X12_covers_L31 n l1 l2 l3 l4 j) σ l6 t0 = some q → hp_w D vwCl (hp_Tl cA) E (hp_A (md_pic cA ad σ0) sz) ss H locs (md_pic cA ad σ) → lv_has ls 7 [(0, .ref (ad 137)), (1, .int l1), (2, .int l2), (3, .int l3), (4, .int l4), (6, .int l6)] → W pp l ee ({ frames := 0, cells := 0, slots := 0, locals := 0 }) ss mm [.ref (ad 137), .int a1, .int a2].toArray bb mt cd H locs 0 0 (MQ bb (hp_Qi D vwCl (hp_Tl cA) sz (md_pic cA ad σ0) (fun r u => r = p.1 ∧ u = md_pic cA ad p.2)) [.ref (ad 137), .int a1, .int a2].toArray ss 0 0 (hp_A (md_pic cA ad σ0) sz)) (F0 mm 73 ls [.int t0]) := by
          intro σ l6 t0 H locs ls h hw hl
          refine lv_istore (lv' := [(5, .int t0), (0, .ref (ad 137)), (1, .int l1), (2, .int l2), (3, .int l3), (4, .int l4), (6, .int l6)]) cx.1 cx.2.1 dX12_covers_73 hl (by decide) rfl (fun ls hl => ?_)
          refine lv_iinc (v := (l6 + 1)) (lv' := [(6, .int (l6 + 1)), (5, .int t0), (0, .ref (ad 137)), (1, .int l1), (2, .int l2), (3, .int l3), (4, .int l4)]) cx.1 cx.2.1 dX12_covers_75 hl (k := 6) rfl rfl (by decide) rfl (fun ls hl => ?_)
          refine lv_goto (tgt := 31) cx.1 cx.2.1 dX12_covers_78 (by decide) ?_
          exact ih σ l1 l2 l3 l4 t0 ((l6 + 1)) q _ _ _ h hw (lv_sub hl [2, 3, 4, 5, 6, 1, 0] rfl) K
        refine lv_iload cx.1 cx.2.1 dX12_covers_31 (lv_at hl 6 rfl) ?_
        refine lv_iload_n cx.1 cx.2.1 dX12_covers_33 rfl (lv_at hl 3 rfl) ?_
        refine lv_icmp_ge (tgt := 81) cx.1 cx.2.1 dX12_covers_34 (by decide) (fun c34 => ?_) (fun c34 => ?_)
        · have h := md_ip c34 h
          obtain rfl := Option.some.inj h
          exact K _ _ _ hw (lv_sub hl [0, 1, 3, 4, 5] rfl)
        · have h := md_in c34 h
          refine lv_iload cx.1 cx.2.1 dX12_covers_37 (lv_at hl 5 rfl) ?_
          refine lv_if_eq (tgt := 81) cx.1 cx.2.1 dX12_covers_39 (by decide) (fun c39 => ?_) (fun c39 => ?_)
          · have h := md_ip c39 h
            obtain rfl := Option.some.inj h
            exact K _ _ _ hw (lv_sub hl [0, 1, 3, 4, 5] rfl)
          · have h := md_in c39 h
            refine lv_aload_n cx.1 cx.2.1 dX12_covers_42 rfl (lv_at hl 0 rfl) ?_
            refine md_gR (k := 17) cx hw hin12c (by decide) (by decide) (List.mem_cons_of_mem _ mm_100) dX12_covers_43 ?_
            refine lv_iconst (v := 5) cx.1 cx.2.1 dX12_covers_46 (by decide) ?_
            refine lv_iload_n cx.1 cx.2.1 dX12_covers_47 rfl (lv_at hl 1 rfl) ?_
            refine lv_imul cx.1 cx.2.1 dX12_covers_48 ?_
            refine lv_iload cx.1 cx.2.1 dX12_covers_49 (lv_at hl 6 rfl) ?_
            refine lv_iadd cx.1 cx.2.1 dX12_covers_51 ?_
            obtain ⟨v1, e_v1, h⟩ := md_ob h
            refine md_lJ (k := 17) hj cx hw (by decide) rfl rfl rfl e_v1 dX12_covers_52 ?_
            refine lv_aload_n cx.1 cx.2.1 dX12_covers_53 rfl (lv_at hl 0 rfl) ?_
            refine md_gR (k := 17) cx hw hin12c (by decide) (by decide) (List.mem_cons_of_mem _ mm_100) dX12_covers_54 ?_
            refine lv_iconst (v := 5) cx.1 cx.2.1 dX12_covers_57 (by decide) ?_
            refine lv_iload_n cx.1 cx.2.1 dX12_covers_58 rfl (lv_at hl 2 rfl) ?_
            refine lv_imul cx.1 cx.2.1 dX12_covers_59 ?_
            refine lv_iload cx.1 cx.2.1 dX12_covers_60 (lv_at hl 6 rfl) ?_
            refine lv_iadd cx.1 cx.2.1 dX12_covers_62 ?_
            obtain ⟨v2, e_v2, h⟩ := md_ob h
            refine md_lJ (k := 17) hj cx hw (by decide) rfl rfl rfl e_v2 dX12_covers_63 ?_
            refine W.lcmp cx.1 cx.2.1 dX12_covers_64 ?_
            refine lv_if_ne (tgt := 72) cx.1 cx.2.1 dX12_covers_65 (by decide) (fun c65 => ?_) (fun c65 => ?_)
            · have h := md_in c65 h
              refine lv_iconst (v := 0) cx.1 cx.2.1 dX12_covers_72 (by decide) ?_
              exact J73 σ l6 0 _ _ _ h hw (lv_sub hl [0, 1, 2, 3, 4, 6] rfl)
            · have h := md_ip c65 h
              refine lv_iconst (v := 1) cx.1 cx.2.1 dX12_covers_68 (by decide) ?_
              refine lv_goto (tgt := 73) cx.1 cx.2.1 dX12_covers_69 (by decide) ?_
              exact J73 σ l6 1 _ _ _ h hw (lv_sub hl [0, 1, 2, 3, 4, 6] rfl)
    obtain ⟨q3, e_q3, h⟩ := md_ob h
    refine L31 n σ l1 l2 l3 l4 t0 0 q3 _ _ _ e_q3 hw (lv_sub hl [2, 3, 4, 5, 6, 1, 0] rfl) (fun H locs ls hw hl => ?_)
    refine lv_iload cx.1 cx.2.1 dX12_covers_81 (lv_at hl 4 rfl) ?_
    refine lv_if_eq (tgt := 135) cx.1 cx.2.1 dX12_covers_83 (by decide) (fun c83 => ?_) (fun c83 => ?_)
    · have h := md_ip c83 h
      refine lv_iconst (v := 0) cx.1 cx.2.1 dX12_covers_135 (by decide) ?_
      exact hp_zret cx hw (md_ret h) (by decide) dX12_covers_136
    · have h := md_in c83 h
      refine lv_aload_n cx.1 cx.2.1 dX12_covers_86 rfl (lv_at hl 0 rfl) ?_
      refine md_gR (k := 19) cx hw hin12c (by decide) (by decide) (List.mem_cons_of_mem _ mm_102) dX12_covers_87 ?_
      refine lv_iload_n cx.1 cx.2.1 dX12_covers_90 rfl (lv_at hl 1 rfl) ?_
      obtain ⟨v4, e_v4, h⟩ := md_ob h
      refine md_lI (k := 19) hj cx hw (by decide) rfl rfl rfl e_v4 dX12_covers_91 ?_
      refine lv_if_ne (tgt := 104) cx.1 cx.2.1 dX12_covers_92 (by decide) (fun c92 => ?_) (fun c92 => ?_)
      · have h := md_in c92 h
        refine lv_aload_n cx.1 cx.2.1 dX12_covers_104 rfl (lv_at hl 0 rfl) ?_
        refine md_gR (k := 19) cx hw hin12c (by decide) (by decide) (List.mem_cons_of_mem _ mm_102) dX12_covers_105 ?_
        refine lv_iload_n cx.1 cx.2.1 dX12_covers_108 rfl (lv_at hl 1 rfl) ?_
        obtain ⟨v5, e_v5, h⟩ := md_ob h
        refine md_lI (k := 19) hj cx hw (by decide) rfl rfl rfl e_v5 dX12_covers_109 ?_
        refine lv_iconst (v := 1) cx.1 cx.2.1 dX12_covers_110 (by decide) ?_
        refine lv_icmp_ne (tgt := 125) cx.1 cx.2.1 dX12_covers_111 (by decide) (fun c111 => ?_) (fun c111 => ?_)
        · have h := md_in c111 h
          refine lv_iload cx.1 cx.2.1 dX12_covers_125 (lv_at hl 3 rfl) ?_
          refine lv_iload_n cx.1 cx.2.1 dX12_covers_127 rfl (lv_at hl 2 rfl) ?_
          refine lv_icmp_le (tgt := 135) cx.1 cx.2.1 dX12_covers_128 (by decide) (fun c128 => ?_) (fun c128 => ?_)
          · have h := md_ip c128 h
            refine lv_iconst (v := 0) cx.1 cx.2.1 dX12_covers_135 (by decide) ?_
            exact hp_zret cx hw (md_ret h) (by decide) dX12_covers_136
          · have h := md_in c128 h
            exact J131 q3.1 _ _ _ h hw (lv_sub hl [] rfl)
        · have h := md_ip c111 h
          refine lv_iload cx.1 cx.2.1 dX12_covers_114 (lv_at hl 3 rfl) ?_
          refine lv_iload_n cx.1 cx.2.1 dX12_covers_116 rfl (lv_at hl 2 rfl) ?_
          refine lv_iconst (v := 1) cx.1 cx.2.1 dX12_covers_117 (by decide) ?_
          refine lv_iadd cx.1 cx.2.1 dX12_covers_118 ?_
          refine lv_icmp_ne (tgt := 135) cx.1 cx.2.1 dX12_covers_119 (by decide) (fun c119 => ?_) (fun c119 => ?_)
          · have h := md_in c119 h
            refine lv_iconst (v := 0) cx.1 cx.2.1 dX12_covers_135 (by decide) ?_
            exact hp_zret cx hw (md_ret h) (by decide) dX12_covers_136
          · have h := md_ip c119 h
            refine lv_goto (tgt := 131) cx.1 cx.2.1 dX12_covers_122 (by decide) ?_
            exact J131 q3.1 _ _ _ h hw (lv_sub hl [] rfl)
      · have h := md_ip c92 h
        refine lv_iload cx.1 cx.2.1 dX12_covers_95 (lv_at hl 3 rfl) ?_
        refine lv_iload_n cx.1 cx.2.1 dX12_covers_97 rfl (lv_at hl 2 rfl) ?_
        refine lv_icmp_ne (tgt := 135) cx.1 cx.2.1 dX12_covers_98 (by decide) (fun c98 => ?_) (fun c98 => ?_)
        · have h := md_in c98 h
          refine lv_iconst (v := 0) cx.1 cx.2.1 dX12_covers_135 (by decide) ?_
          exact hp_zret cx hw (md_ret h) (by decide) dX12_covers_136
        · have h := md_ip c98 h
          refine lv_goto (tgt := 131) cx.1 cx.2.1 dX12_covers_101 (by decide) ?_
          exact J131 q3.1 _ _ _ h hw (lv_sub hl [] rfl)
  refine lv_aload_n cx.1 cx.2.1 dX12_covers_0 rfl (lv_at hl 0 rfl) ?_
  refine md_gR (k := 18) cx hw hin12c (by decide) (by decide) (List.mem_cons_of_mem _ mm_101) dX12_covers_1 ?_
  refine lv_iload_n cx.1 cx.2.1 dX12_covers_4 rfl (lv_at hl 1 rfl) ?_
  obtain ⟨v6, e_v6, h⟩ := md_ob h
  refine md_lI (k := 18) hj cx hw (by decide) rfl rfl rfl e_v6 dX12_covers_5 ?_
  refine lv_istore_n (lv' := [(3, .int v6), (0, .ref (ad 137)), (1, .int a1), (2, .int a2)]) cx.1 cx.2.1 dX12_covers_6 rfl hl (by decide) rfl (fun ls hl => ?_)
  refine lv_aload_n cx.1 cx.2.1 dX12_covers_7 rfl (lv_at hl 1 rfl) ?_
  refine md_gR (k := 18) cx hw hin12c (by decide) (by decide) (List.mem_cons_of_mem _ mm_101) dX12_covers_8 ?_
  refine lv_iload_n cx.1 cx.2.1 dX12_covers_11 rfl (lv_at hl 3 rfl) ?_
  obtain ⟨v7, e_v7, h⟩ := md_ob h
  refine md_lI (k := 18) hj cx hw (by decide) rfl rfl rfl e_v7 dX12_covers_12 ?_
  refine lv_istore (lv' := [(4, .int v7), (3, .int v6), (0, .ref (ad 137)), (1, .int a1), (2, .int a2)]) cx.1 cx.2.1 dX12_covers_13 hl (by decide) rfl (fun ls hl => ?_)
  refine lv_iload cx.1 cx.2.1 dX12_covers_15 (lv_at hl 0 rfl) ?_
  refine lv_iload_n cx.1 cx.2.1 dX12_covers_17 rfl (lv_at hl 1 rfl) ?_
  refine lv_icmp_lt (tgt := 25) cx.1 cx.2.1 dX12_covers_18 (by decide) (fun c18 => ?_) (fun c18 => ?_)
  · have h := md_ip c18 h
    refine lv_iconst (v := 0) cx.1 cx.2.1 dX12_covers_25 (by decide) ?_
    exact J26 σ0 a1 a2 v6 v7 0 _ _ _ h hw (lv_sub hl [2, 3, 4, 1, 0] rfl)
  · have h := md_in c18 h
    refine lv_iconst (v := 1) cx.1 cx.2.1 dX12_covers_21 (by decide) ?_
    refine lv_goto (tgt := 26) cx.1 cx.2.1 dX12_covers_22 (by decide) ?_
    exact J26 σ0 a1 a2 v6 v7 1 _ _ _ h hw (lv_sub hl [2, 3, 4, 1, 0] rfl)
set_option maxHeartbeats 4000000 in
set_option maxRecDepth 100000 in
theorem km_X12_pattern (l : Launch) (D : va_G) (cA : Nat → ClassId) (E : hp_N) (sz : Nat) (ad : Nat → Nat) (hj : md_inj ad) (hE : md_E E) (n : Nat) (σ0 : md_S) (a1 : Int32) (a2 : Int32) (p : (Int32 × md_S)) (h : f_X12_pattern n σ0 a1 a2 = some p) : Met l yX12_pattern (Cond.code yX12_pattern cX12_pattern 3 none :: v_MOD) ({ frames := 8, cells := 0, slots := 0, locals := 198 }) (hp_Pc D vwCl (hp_Tl cA) E sz (md_pic cA ad σ0) [.ref (ad 137), .int a1, .int a2]) (hp_Qv D vwCl (hp_Tl cA) sz (md_pic cA ad σ0) (fun u => u = md_pic cA ad p.2)) 0 0 (hp_A (md_pic cA ad σ0) sz) := by
  refine hp_ofW (cc := cX12_pattern) (maxL := 3) (ret := none) (by decide) rfl (Nat.le_of_ble_eq_true rfl) ?_
  intro pp ee ss mm bb mt cd ls cx hsz hw hl
  have hl : lv_has ls 3 [(0, .ref (ad 137)), (1, .int a1), (2, .int a2)] := hl
  have J42 : ∀ (σ : md_S) (l1 : Int32) (H : Heap) (locs : List Loc) (ls : Array Slot), f_X12_pattern_J42 n σ l1 = some p → hp_w D vwCl (hp_Tl cA) E (hp_A (md_pic cA ad σ0) sz) ss H locs (md_pic cA ad σ) → lv_has ls 3 [(0, .ref (ad 137)), (1, .int l1)] → W pp l ee ({ frames := 8, cells := 0, slots := 0, locals := 198 }) ss mm [.ref (ad 137), .int a1, .int a2].toArray bb mt cd H locs 0 0 (MQ bb (hp_Qv D vwCl (hp_Tl cA) sz (md_pic cA ad σ0) (fun u => u = md_pic cA ad p.2)) [.ref (ad 137), .int a1, .int a2].toArray ss 0 0 (hp_A (md_pic cA ad σ0) sz)) (F0 mm 42 ls []) := by
    intro σ l1 H locs ls h hw hl
    refine lv_aload_n cx.1 cx.2.1 dX12_pattern_42 rfl (lv_at hl 0 rfl) ?_
    refine lv_iload_n cx.1 cx.2.1 dX12_pattern_43 rfl (lv_at hl 1 rfl) ?_
    obtain ⟨p1, e_p1, h⟩ := md_ob h
    refine hp_callVv (As := [.int l1]) (rest := []) cx hw (km_X12_keepPattern l D cA E _ ad hj hE n σ l1 p1 e_p1) (cwV 1 cx.2.2.2.2.2.1 (md_giV mm_103 mm_104 mm_105 mm_5 mm_106) rfl rfl rfl hd_X12_keepPattern ⟨Nat.le_of_ble_eq_true rfl, Nat.le_of_ble_eq_true rfl⟩) md_at0 rfl rfl hl.1 rfl (Nat.le_of_ble_eq_true rfl) dX12_pattern_44 ⟨Nat.le_refl _, Nat.le_refl _⟩ (fun u H locs hp hw => ?_)
    obtain rfl := hp
    refine lv_aload_n cx.1 cx.2.1 dX12_pattern_47 rfl (lv_at hl 0 rfl) ?_
    obtain ⟨p2, e_p2, h⟩ := md_ob h
    refine hp_callVv (As := []) (rest := []) cx hw (km_X12_next l D cA E _ ad hj hE n p1.2  p2 e_p2) (cwV 0 cx.2.2.2.2.2.1 (md_giV mm_92 mm_93 mm_94 mm_5 mm_95) rfl rfl rfl hd_X12_next ⟨Nat.le_of_ble_eq_true rfl, Nat.le_of_ble_eq_true rfl⟩) md_at0 rfl rfl hl.1 rfl (Nat.le_of_ble_eq_true rfl) dX12_pattern_48 ⟨Nat.le_refl _, Nat.le_refl _⟩ (fun u H locs hp hw => ?_)
    obtain rfl := hp
    exact hp_vret cx hw (md_retv h) dX12_pattern_51
  refine lv_aload_n cx.1 cx.2.1 dX12_pattern_0 rfl (lv_at hl 0 rfl) ?_
  obtain ⟨p3, e_p3, h⟩ := md_ob h
  refine hp_callVi (As := []) (rest := []) cx hw (km_X12_isFine l D cA E _ ad hj hE n σ0  p3 e_p3) (cwV 0 cx.2.2.2.2.2.1 (md_giV mm_64 mm_65 mm_66 mm_5 mm_67) rfl rfl rfl hd_X12_isFine ⟨Nat.le_of_ble_eq_true rfl, Nat.le_of_ble_eq_true rfl⟩) md_at0 rfl rfl hl.1 rfl (Nat.le_of_ble_eq_true rfl) dX12_pattern_1 ⟨Nat.le_refl _, Nat.le_refl _⟩ (fun r u H locs hp hw => ?_)
  obtain ⟨rfl, rfl⟩ := hp
  refine lv_if_ne (tgt := 8) cx.1 cx.2.1 dX12_pattern_4 (by decide) (fun c4 => ?_) (fun c4 => ?_)
  · have h := md_in c4 h
    refine lv_aload_n cx.1 cx.2.1 dX12_pattern_8 rfl (lv_at hl 0 rfl) ?_
    refine md_gI (k := 8) cx hw hin12c rfl (by decide) (List.mem_cons_of_mem _ mm_15) dX12_pattern_9 ?_
    refine lv_iconst (v := 4) cx.1 cx.2.1 dX12_pattern_12 (by decide) ?_
    refine lv_icmp_eq (tgt := 23) cx.1 cx.2.1 dX12_pattern_13 (by decide) (fun c13 => ?_) (fun c13 => ?_)
    · have h := md_ip c13 h
      refine lv_iload_n cx.1 cx.2.1 dX12_pattern_23 rfl (lv_at hl 2 rfl) ?_
      refine lv_if_eq (tgt := 42) cx.1 cx.2.1 dX12_pattern_24 (by decide) (fun c24 => ?_) (fun c24 => ?_)
      · have h := md_ip c24 h
        exact J42 p3.2 a1 _ _ _ h hw (lv_sub hl [0, 1] rfl)
      · have h := md_in c24 h
        refine lv_aload_n cx.1 cx.2.1 dX12_pattern_27 rfl (lv_at hl 0 rfl) ?_
        refine md_gI (k := 15) cx hw hin12c rfl (by decide) (List.mem_cons_of_mem _ mm_61) dX12_pattern_28 ?_
        refine lv_if_eq (tgt := 42) cx.1 cx.2.1 dX12_pattern_31 (by decide) (fun c31 => ?_) (fun c31 => ?_)
        · have h := md_ip c31 h
          exact J42 p3.2 a1 _ _ _ h hw (lv_sub hl [0, 1] rfl)
        · have h := md_in c31 h
          refine lv_aload_n cx.1 cx.2.1 dX12_pattern_34 rfl (lv_at hl 0 rfl) ?_
          refine lv_iconst (v := 5) cx.1 cx.2.1 dX12_pattern_35 (by decide) ?_
          obtain ⟨p4, e_p4, h⟩ := md_ob h
          refine hp_callVv (As := [.int 5]) (rest := []) cx hw (km_X12_fails l D cA E _ ad hj hE n p3.2 (5 : Int32) p4 e_p4) (cwV 1 cx.2.2.2.2.2.1 (md_giV mm_54 mm_55 mm_56 mm_5 mm_57) rfl rfl rfl hd_X12_fails ⟨Nat.le_of_ble_eq_true rfl, Nat.le_of_ble_eq_true rfl⟩) md_at0 rfl rfl hl.1 rfl (Nat.le_of_ble_eq_true rfl) dX12_pattern_36 ⟨Nat.le_refl _, Nat.le_refl _⟩ (fun u H locs hp hw => ?_)
          obtain rfl := hp
          refine lv_goto (tgt := 51) cx.1 cx.2.1 dX12_pattern_39 (by decide) ?_
          exact hp_vret cx hw (md_retv h) dX12_pattern_51
    · have h := md_in c13 h
      refine lv_aload_n cx.1 cx.2.1 dX12_pattern_16 rfl (lv_at hl 0 rfl) ?_
      obtain ⟨p5, e_p5, h⟩ := md_ob h
      refine hp_callVv (As := []) (rest := []) cx hw (km_X12_misfit l D cA E _ ad hj hE n p3.2  p5 e_p5) (cwV 0 cx.2.2.2.2.2.1 (md_giV mm_88 mm_89 mm_90 mm_5 mm_91) rfl rfl rfl hd_X12_misfit ⟨Nat.le_of_ble_eq_true rfl, Nat.le_of_ble_eq_true rfl⟩) md_at0 rfl rfl hl.1 rfl (Nat.le_of_ble_eq_true rfl) dX12_pattern_17 ⟨Nat.le_refl _, Nat.le_refl _⟩ (fun u H locs hp hw => ?_)
      obtain rfl := hp
      refine lv_goto (tgt := 51) cx.1 cx.2.1 dX12_pattern_20 (by decide) ?_
      exact hp_vret cx hw (md_retv h) dX12_pattern_51
  · have h := md_ip c4 h
    exact hp_vret cx hw (md_retv h) dX12_pattern_7
set_option maxHeartbeats 4000000 in
set_option maxRecDepth 100000 in
theorem km_X12_right (l : Launch) (D : va_G) (cA : Nat → ClassId) (E : hp_N) (sz : Nat) (ad : Nat → Nat) (hj : md_inj ad) (hE : md_E E) (n : Nat) (σ0 : md_S) (a1 : Int32) (p : (Int32 × md_S)) (h : f_X12_right n σ0 a1 = some p) : Met l yX12_right (Cond.code yX12_right cX12_right 3 none :: v_MOD) ({ frames := 9, cells := 0, slots := 0, locals := 220 }) (hp_Pc D vwCl (hp_Tl cA) E sz (md_pic cA ad σ0) [.ref (ad 137), .int a1]) (hp_Qv D vwCl (hp_Tl cA) sz (md_pic cA ad σ0) (fun u => u = md_pic cA ad p.2)) 0 0 (hp_A (md_pic cA ad σ0) sz) := by
  refine hp_ofW (cc := cX12_right) (maxL := 3) (ret := none) (by decide) rfl (Nat.le_of_ble_eq_true rfl) ?_
  intro pp ee ss mm bb mt cd ls cx hsz hw hl
  have hl : lv_has ls 3 [(0, .ref (ad 137)), (1, .int a1)] := hl
  refine lv_aload_n cx.1 cx.2.1 dX12_right_0 rfl (lv_at hl 0 rfl) ?_
  obtain ⟨p1, e_p1, h⟩ := md_ob h
  refine hp_callVi (As := []) (rest := []) cx hw (km_X12_isName l D cA E _ ad hj hE n σ0  p1 e_p1) (cwV 0 cx.2.2.2.2.2.1 (md_giV mm_107 mm_108 mm_109 mm_5 mm_110) rfl rfl rfl hd_X12_isName ⟨Nat.le_of_ble_eq_true rfl, Nat.le_of_ble_eq_true rfl⟩) md_at0 rfl rfl hl.1 rfl (Nat.le_of_ble_eq_true rfl) dX12_right_1 ⟨Nat.le_refl _, Nat.le_refl _⟩ (fun r u H locs hp hw => ?_)
  obtain ⟨rfl, rfl⟩ := hp
  refine lv_if_ne (tgt := 8) cx.1 cx.2.1 dX12_right_4 (by decide) (fun c4 => ?_) (fun c4 => ?_)
  · have h := md_in c4 h
    refine lv_aload_n cx.1 cx.2.1 dX12_right_8 rfl (lv_at hl 0 rfl) ?_
    refine md_gR (k := 23) cx hw hin12c (by decide) (by decide) (List.mem_cons_of_mem _ mm_111) dX12_right_9 ?_
    refine lv_iload_n cx.1 cx.2.1 dX12_right_12 rfl (lv_at hl 1 rfl) ?_
    obtain ⟨v2, e_v2, h⟩ := md_ob h
    refine md_lI (k := 23) hj cx hw (by decide) rfl rfl rfl e_v2 dX12_right_13 ?_
    refine lv_bipush (v := 8) cx.1 cx.2.1 dX12_right_14 (by decide) ?_
    refine lv_icmp_ne (tgt := 25) cx.1 cx.2.1 dX12_right_16 (by decide) (fun c16 => ?_) (fun c16 => ?_)
    · have h := md_in c16 h
      refine lv_bipush (v := 8) cx.1 cx.2.1 dX12_right_25 (by decide) ?_
      refine lv_iload_n cx.1 cx.2.1 dX12_right_27 rfl (lv_at hl 1 rfl) ?_
      refine lv_imul cx.1 cx.2.1 dX12_right_28 ?_
      refine lv_aload_n cx.1 cx.2.1 dX12_right_29 rfl (lv_at hl 0 rfl) ?_
      refine md_gR (k := 23) cx hw hin12c (by decide) (by decide) (List.mem_cons_of_mem _ mm_111) dX12_right_30 ?_
      refine lv_iload_n cx.1 cx.2.1 dX12_right_33 rfl (lv_at hl 1 rfl) ?_
      obtain ⟨v3, e_v3, h⟩ := md_ob h
      refine md_lI (k := 23) hj cx hw (by decide) rfl rfl rfl e_v3 dX12_right_34 ?_
      refine lv_iadd cx.1 cx.2.1 dX12_right_35 ?_
      refine lv_istore_n (lv' := [(2, .int (((8 : Int32) * a1) + v3)), (0, .ref (ad 137)), (1, .int a1)]) cx.1 cx.2.1 dX12_right_36 rfl hl (by decide) rfl (fun ls hl => ?_)
      refine lv_aload_n cx.1 cx.2.1 dX12_right_37 rfl (lv_at hl 1 rfl) ?_
      refine md_gR (k := 24) cx hw hin12c (by decide) (by decide) (List.mem_cons_of_mem _ mm_112) dX12_right_38 ?_
      refine lv_iload_n cx.1 cx.2.1 dX12_right_41 rfl (lv_at hl 0 rfl) ?_
      refine lv_aload_n cx.1 cx.2.1 dX12_right_42 rfl (lv_at hl 1 rfl) ?_
      refine md_gJ (k := 12) cx hw hin12c rfl (by decide) (List.mem_cons_of_mem _ mm_41) dX12_right_43 ?_
      obtain ⟨σ4, e_σ4, h⟩ := md_ob h
      refine md_sJ (k := 24) hj cx hw (by decide) rfl rfl rfl e_σ4 dX12_right_46 (fun H locs hw => ?_)
      refine lv_aload_n cx.1 cx.2.1 dX12_right_47 rfl (lv_at hl 1 rfl) ?_
      obtain ⟨p5, e_p5, h⟩ := md_ob h
      refine hp_callVv (As := []) (rest := []) cx hw (km_X12_next l D cA E _ ad hj hE n σ4  p5 e_p5) (cwV 0 cx.2.2.2.2.2.1 (md_giV mm_92 mm_93 mm_94 mm_5 mm_95) rfl rfl rfl hd_X12_next ⟨Nat.le_of_ble_eq_true rfl, Nat.le_of_ble_eq_true rfl⟩) md_at0 rfl rfl hl.1 rfl (Nat.le_of_ble_eq_true rfl) dX12_right_48 ⟨Nat.le_refl _, Nat.le_refl _⟩ (fun u H locs hp hw => ?_)
      obtain rfl := hp
      refine lv_aload_n cx.1 cx.2.1 dX12_right_51 rfl (lv_at hl 1 rfl) ?_
      refine lv_bipush (v := 16) cx.1 cx.2.1 dX12_right_52 (by decide) ?_
      refine lv_iload_n cx.1 cx.2.1 dX12_right_54 rfl (lv_at hl 0 rfl) ?_
      refine lv_iadd cx.1 cx.2.1 dX12_right_55 ?_
      refine lv_iconst (v := 0) cx.1 cx.2.1 dX12_right_56 (by decide) ?_
      obtain ⟨p6, e_p6, h⟩ := md_ob h
      refine hp_callVv (As := [.int ((16 : Int32) + (((8 : Int32) * a1) + v3)), .int 0]) (rest := []) cx hw (km_X12_pattern l D cA E _ ad hj hE n p5.2 (((16 : Int32) + (((8 : Int32) * a1) + v3))) (0 : Int32) p6 e_p6) (cwV 2 cx.2.2.2.2.2.1 (md_giV mm_113 mm_114 mm_115 mm_5 mm_116) rfl rfl rfl hd_X12_pattern ⟨Nat.le_of_ble_eq_true rfl, Nat.le_of_ble_eq_true rfl⟩) md_at0 rfl rfl hl.1 rfl (Nat.le_of_ble_eq_true rfl) dX12_right_57 ⟨Nat.le_refl _, Nat.le_refl _⟩ (fun u H locs hp hw => ?_)
      obtain rfl := hp
      refine lv_aload_n cx.1 cx.2.1 dX12_right_60 rfl (lv_at hl 1 rfl) ?_
      refine md_gR (k := 23) cx hw hin12c (by decide) (by decide) (List.mem_cons_of_mem _ mm_111) dX12_right_61 ?_
      refine lv_iload_n cx.1 cx.2.1 dX12_right_64 rfl (lv_at hl 2 rfl) ?_
      refine lv_dup2_11 cx.1 cx.2.1 dX12_right_65 rfl rfl ?_
      obtain ⟨v7, e_v7, h⟩ := md_ob h
      refine md_lI (k := 23) hj cx hw (by decide) rfl rfl rfl e_v7 dX12_right_66 ?_
      refine lv_iconst (v := 1) cx.1 cx.2.1 dX12_right_67 (by decide) ?_
      refine lv_iadd cx.1 cx.2.1 dX12_right_68 ?_
      obtain ⟨σ8, e_σ8, h⟩ := md_ob h
      refine md_sI (k := 23) hj cx hw (by decide) rfl rfl rfl e_σ8 dX12_right_69 (fun H locs hw => ?_)
      exact hp_vret cx hw (md_retv h) dX12_right_70
    · have h := md_ip c16 h
      refine lv_aload_n cx.1 cx.2.1 dX12_right_19 rfl (lv_at hl 0 rfl) ?_
      refine lv_iconst (v := 4) cx.1 cx.2.1 dX12_right_20 (by decide) ?_
      obtain ⟨p9, e_p9, h⟩ := md_ob h
      refine hp_callVv (As := [.int 4]) (rest := []) cx hw (km_X12_fails l D cA E _ ad hj hE n p1.2 (4 : Int32) p9 e_p9) (cwV 1 cx.2.2.2.2.2.1 (md_giV mm_54 mm_55 mm_56 mm_5 mm_57) rfl rfl rfl hd_X12_fails ⟨Nat.le_of_ble_eq_true rfl, Nat.le_of_ble_eq_true rfl⟩) md_at0 rfl rfl hl.1 rfl (Nat.le_of_ble_eq_true rfl) dX12_right_21 ⟨Nat.le_refl _, Nat.le_refl _⟩ (fun u H locs hp hw => ?_)
      obtain rfl := hp
      exact hp_vret cx hw (md_retv h) dX12_right_24
  · have h := md_ip c4 h
    exact hp_vret cx hw (md_retv h) dX12_right_7
set_option maxHeartbeats 4000000 in
set_option maxRecDepth 100000 in
theorem km_X12_hasRight (l : Launch) (D : va_G) (cA : Nat → ClassId) (E : hp_N) (sz : Nat) (ad : Nat → Nat) (hj : md_inj ad) (hE : md_E E) (n : Nat) (σ0 : md_S) (a1 : Int32) (a2 : Int64) (a4 : Int32) (p : (Int32 × md_S)) (h : f_X12_hasRight n σ0 a1 a2 a4 = some p) : Met l yX12_hasRight (Cond.code yX12_hasRight cX12_hasRight 6 (some .boolean) :: v_MOD) ({ frames := 1, cells := 0, slots := 0, locals := 26 }) (hp_Pc D vwCl (hp_Tl cA) E sz (md_pic cA ad σ0) [.ref (ad 137), .int a1, .long a2, .int a4]) (hp_Qi D vwCl (hp_Tl cA) sz (md_pic cA ad σ0) (fun r u => r = p.1 ∧ u = md_pic cA ad p.2)) 0 0 (hp_A (md_pic cA ad σ0) sz) := by
  refine hp_ofW (cc := cX12_hasRight) (maxL := 6) (ret := (some .boolean)) (by decide) rfl (Nat.le_of_ble_eq_true rfl) ?_
  intro pp ee ss mm bb mt cd ls cx hsz hw hl
  have hl : lv_has ls 6 [(0, .ref (ad 137)), (1, .int a1), (2, .long a2), (4, .int a4)] := hl
  refine lv_iconst (v := 0) cx.1 cx.2.1 dX12_hasRight_0 (by decide) ?_
  refine lv_istore (lv' := [(5, .int 0), (0, .ref (ad 137)), (1, .int a1), (2, .long a2), (4, .int a4)]) cx.1 cx.2.1 dX12_hasRight_1 hl (by decide) rfl (fun ls hl => ?_)
  have L3 : ∀ (j : Nat) (σ : md_S) (l1 : Int32) (l2 : Int64) (l4 : Int32) (l5 : Int32) (q : ((Int32 × md_S) ⊕ (md_S × Int32))) (H : Heap) (locs : List Loc) (ls : Array Slot), f_X12_hasRight_L3 n l1 l2 l4 j σ l5 = some q → hp_w D vwCl (hp_Tl cA) E (hp_A (md_pic cA ad σ0) sz) ss H locs (md_pic cA ad σ) → lv_has ls 6 [(0, .ref (ad 137)), (1, .int l1), (2, .long l2), (4, .int l4), (5, .int l5)] → (∀ t, q = Sum.inr t → ∀ (H : Heap) (locs : List Loc) (ls : Array Slot), hp_w D vwCl (hp_Tl cA) E (hp_A (md_pic cA ad σ0) sz) ss H locs (md_pic cA ad t.1) → lv_has ls 6 [] → W pp l ee ({ frames := 1, cells := 0, slots := 0, locals := 26 }) ss mm [.ref (ad 137), .int a1, .long a2, .int a4].toArray bb mt cd H locs 0 0 (MQ bb (hp_Qi D vwCl (hp_Tl cA) sz (md_pic cA ad σ0) (fun r u => r = p.1 ∧ u = md_pic cA ad p.2)) [.ref (ad 137), .int a1, .long a2, .int a4].toArray ss 0 0 (hp_A (md_pic cA ad σ0) sz)) (F0 mm 58 ls [])) → (∀ r, q = Sum.inl r → r = p) → W pp l ee ({ frames := 1, cells := 0, slots := 0, locals := 26 }) ss mm [.ref (ad 137), .int a1, .long a2, .int a4].toArray bb mt cd H locs 0 0 (MQ bb (hp_Qi D vwCl (hp_Tl cA) sz (md_pic cA ad σ0) (fun r u => r = p.1 ∧ u = md_pic cA ad p.2)) [.ref (ad 137), .int a1, .long a2, .int a4].toArray ss 0 0 (hp_A (md_pic cA ad σ0) sz)) (F0 mm 3 ls []) := by
    intro j
    induction j with
    | zero => intro σ l1 l2 l4 l5 q H locs ls h; exact nomatch h
    | succ j ih =>
      intro σ l1 l2 l4 l5 q H locs ls h hw hl K KR
      have J52 : ∀ (σ : md_S) (l5 : Int32) (H : Heap) (locs : List Loc) (ls : Array Slot), f_X12_hasRight_J52 n l1 l2 l4 (f_X12_hasRight_L3 n l1 l2 l4 j) σ l5 = some q → hp_w D vwCl (hp_Tl cA) E (hp_A (md_pic cA ad σ0) sz) ss H locs (md_pic cA ad σ) → lv_has ls 6 [(0, .ref (ad 137)), (1, .int l1), (2, .long l2), (4, .int l4), (5, .int l5)] → W pp l ee ({ frames := 1, cells := 0, slots := 0, locals := 26 }) ss mm [.ref (ad 137), .int a1, .long a2, .int a4].toArray bb mt cd H locs 0 0 (MQ bb (hp_Qi D vwCl (hp_Tl cA) sz (md_pic cA ad σ0) (fun r u => r = p.1 ∧ u = md_pic cA ad p.2)) [.ref (ad 137), .int a1, .long a2, .int a4].toArray ss 0 0 (hp_A (md_pic cA ad σ0) sz)) (F0 mm 52 ls []) := by
        intro σ l5 H locs ls h hw hl
        refine lv_iinc (v := (l5 + 1)) (lv' := [(5, .int (l5 + 1)), (0, .ref (ad 137)), (1, .int l1), (2, .long l2), (4, .int l4)]) cx.1 cx.2.1 dX12_hasRight_52 hl (k := 4) rfl rfl (by decide) rfl (fun ls hl => ?_)
        refine lv_goto (tgt := 3) cx.1 cx.2.1 dX12_hasRight_55 (by decide) ?_
        exact ih σ l1 l2 l4 ((l5 + 1)) q _ _ _ h hw (lv_sub hl [1, 2, 3, 4, 0] rfl) K KR
      refine lv_iload cx.1 cx.2.1 dX12_hasRight_3 (lv_at hl 4 rfl) ?_
      refine lv_aload_n cx.1 cx.2.1 dX12_hasRight_5 rfl (lv_at hl 0 rfl) ?_
      refine md_gR (k := 23) cx hw hin12c (by decide) (by decide) (List.mem_cons_of_mem _ mm_111) dX12_hasRight_6 ?_
      refine lv_iload_n cx.1 cx.2.1 dX12_hasRight_9 rfl (lv_at hl 1 rfl) ?_
      obtain ⟨v1, e_v1, h⟩ := md_ob h
      refine md_lI (k := 23) hj cx hw (by decide) rfl rfl rfl e_v1 dX12_hasRight_10 ?_
      refine lv_icmp_ge (tgt := 58) cx.1 cx.2.1 dX12_hasRight_11 (by decide) (fun c11 => ?_) (fun c11 => ?_)
      · have h := md_ip c11 h
        exact K _ (Option.some.inj h).symm _ _ _ hw (lv_sub hl [] rfl)
      · have h := md_in c11 h
        refine lv_aload_n cx.1 cx.2.1 dX12_hasRight_14 rfl (lv_at hl 0 rfl) ?_
        refine md_gR (k := 24) cx hw hin12c (by decide) (by decide) (List.mem_cons_of_mem _ mm_112) dX12_hasRight_15 ?_
        refine lv_bipush (v := 8) cx.1 cx.2.1 dX12_hasRight_18 (by decide) ?_
        refine lv_iload_n cx.1 cx.2.1 dX12_hasRight_20 rfl (lv_at hl 1 rfl) ?_
        refine lv_imul cx.1 cx.2.1 dX12_hasRight_21 ?_
        refine lv_iload cx.1 cx.2.1 dX12_hasRight_22 (lv_at hl 4 rfl) ?_
        refine lv_iadd cx.1 cx.2.1 dX12_hasRight_24 ?_
        obtain ⟨v2, e_v2, h⟩ := md_ob h
        refine md_lJ (k := 24) hj cx hw (by decide) rfl rfl rfl e_v2 dX12_hasRight_25 ?_
        refine lv_lload_n cx.1 cx.2.1 dX12_hasRight_26 rfl (lv_at hl 2 rfl) ?_
        refine W.lcmp cx.1 cx.2.1 dX12_hasRight_27 ?_
        refine lv_if_ne (tgt := 52) cx.1 cx.2.1 dX12_hasRight_28 (by decide) (fun c28 => ?_) (fun c28 => ?_)
        · have h := md_in c28 h
          exact J52 σ l5 _ _ _ h hw (lv_sub hl [0, 1, 2, 3, 4] rfl)
        · have h := md_ip c28 h
          refine lv_aload_n cx.1 cx.2.1 dX12_hasRight_31 rfl (lv_at hl 0 rfl) ?_
          refine lv_bipush (v := 16) cx.1 cx.2.1 dX12_hasRight_32 (by decide) ?_
          refine lv_bipush (v := 8) cx.1 cx.2.1 dX12_hasRight_34 (by decide) ?_
          refine lv_iload_n cx.1 cx.2.1 dX12_hasRight_36 rfl (lv_at hl 1 rfl) ?_
          refine lv_imul cx.1 cx.2.1 dX12_hasRight_37 ?_
          refine lv_iadd cx.1 cx.2.1 dX12_hasRight_38 ?_
          refine lv_iload cx.1 cx.2.1 dX12_hasRight_39 (lv_at hl 4 rfl) ?_
          refine lv_iadd cx.1 cx.2.1 dX12_hasRight_41 ?_
          refine lv_iload cx.1 cx.2.1 dX12_hasRight_42 (lv_at hl 3 rfl) ?_
          obtain ⟨p3, e_p3, h⟩ := md_ob h
          refine hp_callVi (As := [.int (((16 : Int32) + ((8 : Int32) * l1)) + l5), .int l4]) (rest := []) cx hw (km_X12_covers l D cA E _ ad hj hE n σ ((((16 : Int32) + ((8 : Int32) * l1)) + l5)) l4 p3 e_p3) (cwV 2 cx.2.2.2.2.2.1 (md_giV mm_117 mm_118 mm_119 mm_5 mm_120) rfl rfl rfl hd_X12_covers ⟨Nat.le_of_ble_eq_true rfl, Nat.le_of_ble_eq_true rfl⟩) md_at0 rfl rfl hl.1 rfl (Nat.le_of_ble_eq_true rfl) dX12_hasRight_44 ⟨Nat.le_refl _, Nat.le_refl _⟩ (fun r u H locs hp hw => ?_)
          obtain ⟨rfl, rfl⟩ := hp
          refine lv_if_eq (tgt := 52) cx.1 cx.2.1 dX12_hasRight_47 (by decide) (fun c47 => ?_) (fun c47 => ?_)
          · have h := md_ip c47 h
            exact J52 p3.2 l5 _ _ _ h hw (lv_sub hl [0, 1, 2, 3, 4] rfl)
          · have h := md_in c47 h
            refine lv_iconst (v := 1) cx.1 cx.2.1 dX12_hasRight_50 (by decide) ?_
            exact hp_zret cx hw (md_ret (congrArg some (KR _ (Option.some.inj h).symm))) (by decide) dX12_hasRight_51
  obtain ⟨q4, e_q4, h⟩ := md_ob h
  refine L3 n σ0 a1 a2 a4 0 q4 _ _ _ e_q4 hw (lv_sub hl [1, 2, 3, 4, 0] rfl) (fun t4 hq4 H locs ls hw hl => ?_) (fun r hr => by subst hr; exact Option.some.inj h)
  subst hq4
  have h := md_inr h
  refine lv_iconst (v := 0) cx.1 cx.2.1 dX12_hasRight_58 (by decide) ?_
  exact hp_zret cx hw (md_ret h) (by decide) dX12_hasRight_59
set_option maxHeartbeats 4000000 in
set_option maxRecDepth 100000 in
theorem km_X12_hasDomain (l : Launch) (D : va_G) (cA : Nat → ClassId) (E : hp_N) (sz : Nat) (ad : Nat → Nat) (hj : md_inj ad) (hE : md_E E) (n : Nat) (σ0 : md_S) (a1 : Int32) (a2 : Int64) (a4 : Int32) (p : (Int32 × md_S)) (h : f_X12_hasDomain n σ0 a1 a2 a4 = some p) : Met l yX12_hasDomain (Cond.code yX12_hasDomain cX12_hasDomain 6 (some .boolean) :: v_MOD) ({ frames := 2, cells := 0, slots := 0, locals := 51 }) (hp_Pc D vwCl (hp_Tl cA) E sz (md_pic cA ad σ0) [.ref (ad 137), .int a1, .long a2, .int a4]) (hp_Qi D vwCl (hp_Tl cA) sz (md_pic cA ad σ0) (fun r u => r = p.1 ∧ u = md_pic cA ad p.2)) 0 0 (hp_A (md_pic cA ad σ0) sz) := by
  refine hp_ofW (cc := cX12_hasDomain) (maxL := 6) (ret := (some .boolean)) (by decide) rfl (Nat.le_of_ble_eq_true rfl) ?_
  intro pp ee ss mm bb mt cd ls cx hsz hw hl
  have hl : lv_has ls 6 [(0, .ref (ad 137)), (1, .int a1), (2, .long a2), (4, .int a4)] := hl
  refine lv_iconst (v := 0) cx.1 cx.2.1 dX12_hasDomain_0 (by decide) ?_
  refine lv_istore (lv' := [(5, .int 0), (0, .ref (ad 137)), (1, .int a1), (2, .long a2), (4, .int a4)]) cx.1 cx.2.1 dX12_hasDomain_1 hl (by decide) rfl (fun ls hl => ?_)
  have L3 : ∀ (j : Nat) (σ : md_S) (l1 : Int32) (l2 : Int64) (l4 : Int32) (l5 : Int32) (q : ((Int32 × md_S) ⊕ (md_S × Int32))) (H : Heap) (locs : List Loc) (ls : Array Slot), f_X12_hasDomain_L3 n l1 l2 l4 j σ l5 = some q → hp_w D vwCl (hp_Tl cA) E (hp_A (md_pic cA ad σ0) sz) ss H locs (md_pic cA ad σ) → lv_has ls 6 [(0, .ref (ad 137)), (1, .int l1), (2, .long l2), (4, .int l4), (5, .int l5)] → (∀ t, q = Sum.inr t → ∀ (H : Heap) (locs : List Loc) (ls : Array Slot), hp_w D vwCl (hp_Tl cA) E (hp_A (md_pic cA ad σ0) sz) ss H locs (md_pic cA ad t.1) → lv_has ls 6 [] → W pp l ee ({ frames := 2, cells := 0, slots := 0, locals := 51 }) ss mm [.ref (ad 137), .int a1, .long a2, .int a4].toArray bb mt cd H locs 0 0 (MQ bb (hp_Qi D vwCl (hp_Tl cA) sz (md_pic cA ad σ0) (fun r u => r = p.1 ∧ u = md_pic cA ad p.2)) [.ref (ad 137), .int a1, .long a2, .int a4].toArray ss 0 0 (hp_A (md_pic cA ad σ0) sz)) (F0 mm 47 ls [])) → (∀ r, q = Sum.inl r → r = p) → W pp l ee ({ frames := 2, cells := 0, slots := 0, locals := 51 }) ss mm [.ref (ad 137), .int a1, .long a2, .int a4].toArray bb mt cd H locs 0 0 (MQ bb (hp_Qi D vwCl (hp_Tl cA) sz (md_pic cA ad σ0) (fun r u => r = p.1 ∧ u = md_pic cA ad p.2)) [.ref (ad 137), .int a1, .long a2, .int a4].toArray ss 0 0 (hp_A (md_pic cA ad σ0) sz)) (F0 mm 3 ls []) := by
    intro j
    induction j with
    | zero => intro σ l1 l2 l4 l5 q H locs ls h; exact nomatch h
    | succ j ih =>
      intro σ l1 l2 l4 l5 q H locs ls h hw hl K KR
      have J41 : ∀ (σ : md_S) (l5 : Int32) (H : Heap) (locs : List Loc) (ls : Array Slot), f_X12_hasDomain_J41 n l1 l2 l4 (f_X12_hasDomain_L3 n l1 l2 l4 j) σ l5 = some q → hp_w D vwCl (hp_Tl cA) E (hp_A (md_pic cA ad σ0) sz) ss H locs (md_pic cA ad σ) → lv_has ls 6 [(0, .ref (ad 137)), (1, .int l1), (2, .long l2), (4, .int l4), (5, .int l5)] → W pp l ee ({ frames := 2, cells := 0, slots := 0, locals := 51 }) ss mm [.ref (ad 137), .int a1, .long a2, .int a4].toArray bb mt cd H locs 0 0 (MQ bb (hp_Qi D vwCl (hp_Tl cA) sz (md_pic cA ad σ0) (fun r u => r = p.1 ∧ u = md_pic cA ad p.2)) [.ref (ad 137), .int a1, .long a2, .int a4].toArray ss 0 0 (hp_A (md_pic cA ad σ0) sz)) (F0 mm 41 ls []) := by
        intro σ l5 H locs ls h hw hl
        refine lv_iinc (v := (l5 + 1)) (lv' := [(5, .int (l5 + 1)), (0, .ref (ad 137)), (1, .int l1), (2, .long l2), (4, .int l4)]) cx.1 cx.2.1 dX12_hasDomain_41 hl (k := 4) rfl rfl (by decide) rfl (fun ls hl => ?_)
        refine lv_goto (tgt := 3) cx.1 cx.2.1 dX12_hasDomain_44 (by decide) ?_
        exact ih σ l1 l2 l4 ((l5 + 1)) q _ _ _ h hw (lv_sub hl [1, 2, 3, 4, 0] rfl) K KR
      refine lv_iload cx.1 cx.2.1 dX12_hasDomain_3 (lv_at hl 4 rfl) ?_
      refine lv_aload_n cx.1 cx.2.1 dX12_hasDomain_5 rfl (lv_at hl 0 rfl) ?_
      refine md_gI (k := 20) cx hw hin12c rfl (by decide) (List.mem_cons_of_mem _ mm_121) dX12_hasDomain_6 ?_
      refine lv_icmp_ge (tgt := 47) cx.1 cx.2.1 dX12_hasDomain_9 (by decide) (fun c9 => ?_) (fun c9 => ?_)
      · have h := md_ip c9 h
        exact K _ (Option.some.inj h).symm _ _ _ hw (lv_sub hl [] rfl)
      · have h := md_in c9 h
        refine lv_aload_n cx.1 cx.2.1 dX12_hasDomain_12 rfl (lv_at hl 0 rfl) ?_
        refine md_gR (k := 33) cx hw hin12c (by decide) (by decide) (List.mem_cons_of_mem _ mm_122) dX12_hasDomain_13 ?_
        refine lv_iload_n cx.1 cx.2.1 dX12_hasDomain_16 rfl (lv_at hl 1 rfl) ?_
        obtain ⟨v1, e_v1, h⟩ := md_ob h
        refine md_lI (k := 33) hj cx hw (by decide) rfl rfl rfl e_v1 dX12_hasDomain_17 ?_
        refine lv_iload cx.1 cx.2.1 dX12_hasDomain_18 (lv_at hl 4 rfl) ?_
        refine lv_ishr cx.1 cx.2.1 dX12_hasDomain_20 ?_
        refine lv_iconst (v := 1) cx.1 cx.2.1 dX12_hasDomain_21 (by decide) ?_
        refine lv_iand cx.1 cx.2.1 dX12_hasDomain_22 ?_
        refine lv_iconst (v := 1) cx.1 cx.2.1 dX12_hasDomain_23 (by decide) ?_
        refine lv_icmp_ne (tgt := 41) cx.1 cx.2.1 dX12_hasDomain_24 (by decide) (fun c24 => ?_) (fun c24 => ?_)
        · have h := md_in c24 h
          exact J41 σ l5 _ _ _ h hw (lv_sub hl [0, 1, 2, 3, 4] rfl)
        · have h := md_ip c24 h
          refine lv_aload_n cx.1 cx.2.1 dX12_hasDomain_27 rfl (lv_at hl 0 rfl) ?_
          refine lv_iload cx.1 cx.2.1 dX12_hasDomain_28 (lv_at hl 4 rfl) ?_
          refine lv_lload_n cx.1 cx.2.1 dX12_hasDomain_30 rfl (lv_at hl 2 rfl) ?_
          refine lv_iload cx.1 cx.2.1 dX12_hasDomain_31 (lv_at hl 3 rfl) ?_
          obtain ⟨p2, e_p2, h⟩ := md_ob h
          refine hp_callVi (As := [.int l5, .long l2, .int l4]) (rest := []) cx hw (km_X12_hasRight l D cA E _ ad hj hE n σ l5 l2 l4 p2 e_p2) (cwV 3 cx.2.2.2.2.2.1 (md_giV mm_123 mm_124 mm_125 mm_5 mm_126) rfl rfl rfl hd_X12_hasRight ⟨Nat.le_of_ble_eq_true rfl, Nat.le_of_ble_eq_true rfl⟩) md_at0 rfl rfl hl.1 rfl (Nat.le_of_ble_eq_true rfl) dX12_hasDomain_33 ⟨Nat.le_refl _, Nat.le_refl _⟩ (fun r u H locs hp hw => ?_)
          obtain ⟨rfl, rfl⟩ := hp
          refine lv_if_eq (tgt := 41) cx.1 cx.2.1 dX12_hasDomain_36 (by decide) (fun c36 => ?_) (fun c36 => ?_)
          · have h := md_ip c36 h
            exact J41 p2.2 l5 _ _ _ h hw (lv_sub hl [0, 1, 2, 3, 4] rfl)
          · have h := md_in c36 h
            refine lv_iconst (v := 1) cx.1 cx.2.1 dX12_hasDomain_39 (by decide) ?_
            exact hp_zret cx hw (md_ret (congrArg some (KR _ (Option.some.inj h).symm))) (by decide) dX12_hasDomain_40
  obtain ⟨q3, e_q3, h⟩ := md_ob h
  refine L3 n σ0 a1 a2 a4 0 q3 _ _ _ e_q3 hw (lv_sub hl [1, 2, 3, 4, 0] rfl) (fun t3 hq3 H locs ls hw hl => ?_) (fun r hr => by subst hr; exact Option.some.inj h)
  subst hq3
  have h := md_inr h
  refine lv_iconst (v := 0) cx.1 cx.2.1 dX12_hasDomain_47 (by decide) ?_
  exact hp_zret cx hw (md_ret h) (by decide) dX12_hasDomain_48
set_option maxHeartbeats 4000000 in
set_option maxRecDepth 100000 in
theorem km_X12_hasLimit (l : Launch) (D : va_G) (cA : Nat → ClassId) (E : hp_N) (sz : Nat) (ad : Nat → Nat) (hj : md_inj ad) (hE : md_E E) (n : Nat) (σ0 : md_S) (a1 : Int32) (a2 : Int64) (a4 : Int32) (p : (Int32 × md_S)) (h : f_X12_hasLimit n σ0 a1 a2 a4 = some p) : Met l yX12_hasLimit (Cond.code yX12_hasLimit cX12_hasLimit 5 (some .boolean) :: v_MOD) ({ frames := 2, cells := 0, slots := 0, locals := 51 }) (hp_Pc D vwCl (hp_Tl cA) E sz (md_pic cA ad σ0) [.ref (ad 137), .int a1, .long a2, .int a4]) (hp_Qi D vwCl (hp_Tl cA) sz (md_pic cA ad σ0) (fun r u => r = p.1 ∧ u = md_pic cA ad p.2)) 0 0 (hp_A (md_pic cA ad σ0) sz) := by
  refine hp_ofW (cc := cX12_hasLimit) (maxL := 5) (ret := (some .boolean)) (by decide) rfl (Nat.le_of_ble_eq_true rfl) ?_
  intro pp ee ss mm bb mt cd ls cx hsz hw hl
  have hl : lv_has ls 5 [(0, .ref (ad 137)), (1, .int a1), (2, .long a2), (4, .int a4)] := hl
  refine lv_aload_n cx.1 cx.2.1 dX12_hasLimit_0 rfl (lv_at hl 0 rfl) ?_
  refine lv_bipush (v := 8) cx.1 cx.2.1 dX12_hasLimit_1 (by decide) ?_
  refine lv_iload_n cx.1 cx.2.1 dX12_hasLimit_3 rfl (lv_at hl 1 rfl) ?_
  refine lv_iadd cx.1 cx.2.1 dX12_hasLimit_4 ?_
  refine lv_lload_n cx.1 cx.2.1 dX12_hasLimit_5 rfl (lv_at hl 2 rfl) ?_
  refine lv_iload cx.1 cx.2.1 dX12_hasLimit_6 (lv_at hl 3 rfl) ?_
  obtain ⟨p1, e_p1, h⟩ := md_ob h
  refine hp_callVi (As := [.int ((8 : Int32) + a1), .long a2, .int a4]) (rest := []) cx hw (km_X12_hasRight l D cA E _ ad hj hE n σ0 (((8 : Int32) + a1)) a2 a4 p1 e_p1) (cwV 3 cx.2.2.2.2.2.1 (md_giV mm_123 mm_124 mm_125 mm_5 mm_126) rfl rfl rfl hd_X12_hasRight ⟨Nat.le_of_ble_eq_true rfl, Nat.le_of_ble_eq_true rfl⟩) md_at0 rfl rfl hl.1 rfl (Nat.le_of_ble_eq_true rfl) dX12_hasLimit_8 ⟨Nat.le_refl _, Nat.le_refl _⟩ (fun r u H locs hp hw => ?_)
  obtain ⟨rfl, rfl⟩ := hp
  obtain ⟨z2, e_z2, h⟩ := md_ob h
  rw [(md_zbs e_z2).1] at h
  exact hp_zret cx hw (md_ret h) (md_nbn (md_zbs e_z2).2) dX12_hasLimit_11
set_option maxHeartbeats 4000000 in
set_option maxRecDepth 100000 in
theorem km_X12_node (l : Launch) (D : va_G) (cA : Nat → ClassId) (E : hp_N) (sz : Nat) (ad : Nat → Nat) (hj : md_inj ad) (hE : md_E E) (n : Nat) (σ0 : md_S) (a1 : Int32) (a2 : Int32) (a3 : Int32) (p : (Int32 × md_S)) (h : f_X12_node n σ0 a1 a2 a3 = some p) : Met l yX12_node (Cond.code yX12_node cX12_node 5 (some .int) :: v_MOD) ({ frames := 0, cells := 0, slots := 0, locals := 0 }) (hp_Pc D vwCl (hp_Tl cA) E sz (md_pic cA ad σ0) [.ref (ad 137), .int a1, .int a2, .int a3]) (hp_Qi D vwCl (hp_Tl cA) sz (md_pic cA ad σ0) (fun r u => r = p.1 ∧ u = md_pic cA ad p.2)) 0 0 (hp_A (md_pic cA ad σ0) sz) := by
  refine hp_ofW (cc := cX12_node) (maxL := 5) (ret := (some .int)) (by decide) rfl (Nat.le_of_ble_eq_true rfl) ?_
  intro pp ee ss mm bb mt cd ls cx hsz hw hl
  have hl : lv_has ls 5 [(0, .ref (ad 137)), (1, .int a1), (2, .int a2), (3, .int a3)] := hl
  refine lv_aload_n cx.1 cx.2.1 dX12_node_0 rfl (lv_at hl 0 rfl) ?_
  refine md_gI (k := 65) cx hw hin12c rfl (by decide) (List.mem_cons_of_mem _ mm_127) dX12_node_1 ?_
  refine lv_istore (lv' := [(4, .int (mI σ0 65)), (0, .ref (ad 137)), (1, .int a1), (2, .int a2), (3, .int a3)]) cx.1 cx.2.1 dX12_node_4 hl (by decide) rfl (fun ls hl => ?_)
  refine lv_aload_n cx.1 cx.2.1 dX12_node_6 rfl (lv_at hl 1 rfl) ?_
  refine lv_dup cx.1 cx.2.1 dX12_node_7 rfl ?_
  refine md_gI (k := 65) cx hw hin12c rfl (by decide) (List.mem_cons_of_mem _ mm_127) dX12_node_8 ?_
  refine lv_iconst (v := 1) cx.1 cx.2.1 dX12_node_11 (by decide) ?_
  refine lv_iadd cx.1 cx.2.1 dX12_node_12 ?_
  obtain ⟨σ1, e_σ1, h⟩ := md_ob h
  refine md_pI (k := 65) cx hw hin12c rfl (by decide) rfl (List.mem_cons_of_mem _ mm_127) rfl e_σ1 dX12_node_13 (fun H locs hw => ?_)
  refine lv_aload_n cx.1 cx.2.1 dX12_node_16 rfl (lv_at hl 1 rfl) ?_
  refine md_gR (k := 66) cx hw hin12c (by decide) (by decide) (List.mem_cons_of_mem _ mm_128) dX12_node_17 ?_
  refine lv_iload cx.1 cx.2.1 dX12_node_20 (lv_at hl 0 rfl) ?_
  refine lv_iload_n cx.1 cx.2.1 dX12_node_22 rfl (lv_at hl 2 rfl) ?_
  obtain ⟨σ2, e_σ2, h⟩ := md_ob h
  refine md_sI (k := 66) hj cx hw (by decide) rfl rfl rfl e_σ2 dX12_node_23 (fun H locs hw => ?_)
  refine lv_aload_n cx.1 cx.2.1 dX12_node_24 rfl (lv_at hl 1 rfl) ?_
  refine md_gR (k := 67) cx hw hin12c (by decide) (by decide) (List.mem_cons_of_mem _ mm_129) dX12_node_25 ?_
  refine lv_iload cx.1 cx.2.1 dX12_node_28 (lv_at hl 0 rfl) ?_
  refine lv_aload_n cx.1 cx.2.1 dX12_node_30 rfl (lv_at hl 1 rfl) ?_
  refine md_gI (k := 64) cx hw hin12c rfl (by decide) (List.mem_cons_of_mem _ mm_130) dX12_node_31 ?_
  obtain ⟨σ3, e_σ3, h⟩ := md_ob h
  refine md_sI (k := 67) hj cx hw (by decide) rfl rfl rfl e_σ3 dX12_node_34 (fun H locs hw => ?_)
  refine lv_aload_n cx.1 cx.2.1 dX12_node_35 rfl (lv_at hl 1 rfl) ?_
  refine md_gR (k := 68) cx hw hin12c (by decide) (by decide) (List.mem_cons_of_mem _ mm_131) dX12_node_36 ?_
  refine lv_iload cx.1 cx.2.1 dX12_node_39 (lv_at hl 0 rfl) ?_
  refine lv_iload_n cx.1 cx.2.1 dX12_node_41 rfl (lv_at hl 3 rfl) ?_
  obtain ⟨σ4, e_σ4, h⟩ := md_ob h
  refine md_sI (k := 68) hj cx hw (by decide) rfl rfl rfl e_σ4 dX12_node_42 (fun H locs hw => ?_)
  refine lv_aload_n cx.1 cx.2.1 dX12_node_43 rfl (lv_at hl 1 rfl) ?_
  refine md_gR (k := 69) cx hw hin12c (by decide) (by decide) (List.mem_cons_of_mem _ mm_132) dX12_node_44 ?_
  refine lv_iload cx.1 cx.2.1 dX12_node_47 (lv_at hl 0 rfl) ?_
  refine lv_iload_n cx.1 cx.2.1 dX12_node_49 rfl (lv_at hl 4 rfl) ?_
  obtain ⟨σ5, e_σ5, h⟩ := md_ob h
  refine md_sI (k := 69) hj cx hw (by decide) rfl rfl rfl e_σ5 dX12_node_50 (fun H locs hw => ?_)
  refine lv_aload_n cx.1 cx.2.1 dX12_node_51 rfl (lv_at hl 1 rfl) ?_
  refine md_gR (k := 70) cx hw hin12c (by decide) (by decide) (List.mem_cons_of_mem _ mm_133) dX12_node_52 ?_
  refine lv_iload cx.1 cx.2.1 dX12_node_55 (lv_at hl 0 rfl) ?_
  refine lv_iconst (v := (-1)) cx.1 cx.2.1 dX12_node_57 (by decide) ?_
  obtain ⟨σ6, e_σ6, h⟩ := md_ob h
  refine md_sI (k := 70) hj cx hw (by decide) rfl rfl rfl e_σ6 dX12_node_58 (fun H locs hw => ?_)
  refine lv_aload_n cx.1 cx.2.1 dX12_node_59 rfl (lv_at hl 1 rfl) ?_
  refine md_gR (k := 71) cx hw hin12c (by decide) (by decide) (List.mem_cons_of_mem _ mm_134) dX12_node_60 ?_
  refine lv_iload cx.1 cx.2.1 dX12_node_63 (lv_at hl 0 rfl) ?_
  refine lv_iconst (v := (-1)) cx.1 cx.2.1 dX12_node_65 (by decide) ?_
  obtain ⟨σ7, e_σ7, h⟩ := md_ob h
  refine md_sI (k := 71) hj cx hw (by decide) rfl rfl rfl e_σ7 dX12_node_66 (fun H locs hw => ?_)
  refine lv_aload_n cx.1 cx.2.1 dX12_node_67 rfl (lv_at hl 1 rfl) ?_
  refine md_gR (k := 72) cx hw hin12c (by decide) (by decide) (List.mem_cons_of_mem _ mm_135) dX12_node_68 ?_
  refine lv_iload cx.1 cx.2.1 dX12_node_71 (lv_at hl 0 rfl) ?_
  refine lv_iconst (v := (-1)) cx.1 cx.2.1 dX12_node_73 (by decide) ?_
  obtain ⟨σ8, e_σ8, h⟩ := md_ob h
  refine md_sI (k := 72) hj cx hw (by decide) rfl rfl rfl e_σ8 dX12_node_74 (fun H locs hw => ?_)
  refine lv_iload cx.1 cx.2.1 dX12_node_75 (lv_at hl 0 rfl) ?_
  exact hp_iret cx hw (md_ret h) dX12_node_77
set_option maxHeartbeats 4000000 in
set_option maxRecDepth 100000 in
theorem km_X12_gets (l : Launch) (D : va_G) (cA : Nat → ClassId) (E : hp_N) (sz : Nat) (ad : Nat → Nat) (hj : md_inj ad) (hE : md_E E) (n : Nat) (σ0 : md_S) (a1 : Int32) (a2 : Int32) (p : (Int32 × md_S)) (h : f_X12_gets n σ0 a1 a2 = some p) : Met l yX12_gets (Cond.code yX12_gets cX12_gets 4 none :: v_MOD) ({ frames := 1, cells := 0, slots := 0, locals := 20 }) (hp_Pc D vwCl (hp_Tl cA) E sz (md_pic cA ad σ0) [.ref (ad 137), .int a1, .int a2]) (hp_Qv D vwCl (hp_Tl cA) sz (md_pic cA ad σ0) (fun u => u = md_pic cA ad p.2)) 0 0 (hp_A (md_pic cA ad σ0) sz) := by
  refine hp_ofW (cc := cX12_gets) (maxL := 4) (ret := none) (by decide) rfl (Nat.le_of_ble_eq_true rfl) ?_
  intro pp ee ss mm bb mt cd ls cx hsz hw hl
  have hl : lv_has ls 4 [(0, .ref (ad 137)), (1, .int a1), (2, .int a2)] := hl
  refine lv_aload_n cx.1 cx.2.1 dX12_gets_0 rfl (lv_at hl 0 rfl) ?_
  obtain ⟨p1, e_p1, h⟩ := md_ob h
  refine hp_callVi (As := []) (rest := []) cx hw (km_X12_isFine l D cA E _ ad hj hE n σ0  p1 e_p1) (cwV 0 cx.2.2.2.2.2.1 (md_giV mm_64 mm_65 mm_66 mm_5 mm_67) rfl rfl rfl hd_X12_isFine ⟨Nat.le_of_ble_eq_true rfl, Nat.le_of_ble_eq_true rfl⟩) md_at0 rfl rfl hl.1 rfl (Nat.le_of_ble_eq_true rfl) dX12_gets_1 ⟨Nat.le_refl _, Nat.le_refl _⟩ (fun r u H locs hp hw => ?_)
  obtain ⟨rfl, rfl⟩ := hp
  refine lv_if_ne (tgt := 8) cx.1 cx.2.1 dX12_gets_4 (by decide) (fun c4 => ?_) (fun c4 => ?_)
  · have h := md_in c4 h
    refine lv_aload_n cx.1 cx.2.1 dX12_gets_8 rfl (lv_at hl 0 rfl) ?_
    refine md_gR (k := 72) cx hw hin12c (by decide) (by decide) (List.mem_cons_of_mem _ mm_135) dX12_gets_9 ?_
    refine lv_iload_n cx.1 cx.2.1 dX12_gets_12 rfl (lv_at hl 2 rfl) ?_
    refine lv_iload_n cx.1 cx.2.1 dX12_gets_13 rfl (lv_at hl 1 rfl) ?_
    obtain ⟨σ2, e_σ2, h⟩ := md_ob h
    refine md_sI (k := 72) hj cx hw (by decide) rfl rfl rfl e_σ2 dX12_gets_14 (fun H locs hw => ?_)
    refine lv_aload_n cx.1 cx.2.1 dX12_gets_15 rfl (lv_at hl 0 rfl) ?_
    refine md_gR (k := 70) cx hw hin12c (by decide) (by decide) (List.mem_cons_of_mem _ mm_133) dX12_gets_16 ?_
    refine lv_iload_n cx.1 cx.2.1 dX12_gets_19 rfl (lv_at hl 1 rfl) ?_
    obtain ⟨v3, e_v3, h⟩ := md_ob h
    refine md_lI (k := 70) hj cx hw (by decide) rfl rfl rfl e_v3 dX12_gets_20 ?_
    refine lv_istore_n (lv' := [(3, .int v3), (0, .ref (ad 137)), (1, .int a1), (2, .int a2)]) cx.1 cx.2.1 dX12_gets_21 rfl hl (by decide) rfl (fun ls hl => ?_)
    refine lv_iload_n cx.1 cx.2.1 dX12_gets_22 rfl (lv_at hl 0 rfl) ?_
    refine lv_iconst (v := (-1)) cx.1 cx.2.1 dX12_gets_23 (by decide) ?_
    refine lv_icmp_ne (tgt := 35) cx.1 cx.2.1 dX12_gets_24 (by decide) (fun c24 => ?_) (fun c24 => ?_)
    · have h := md_in c24 h
      have L35 : ∀ (j : Nat) (σ : md_S) (l2 : Int32) (l3 : Int32) (q : (md_S × Int32)) (H : Heap) (locs : List Loc) (ls : Array Slot), f_X12_gets_L35 n l2 j σ l3 = some q → hp_w D vwCl (hp_Tl cA) E (hp_A (md_pic cA ad σ0) sz) ss H locs (md_pic cA ad σ) → lv_has ls 4 [(0, .ref (ad 137)), (2, .int l2), (3, .int l3)] → (∀ (H : Heap) (locs : List Loc) (ls : Array Slot), hp_w D vwCl (hp_Tl cA) E (hp_A (md_pic cA ad σ0) sz) ss H locs (md_pic cA ad q.1) → lv_has ls 4 [(0, .ref (ad 137)), (2, .int l2), (3, .int q.2)] → W pp l ee ({ frames := 1, cells := 0, slots := 0, locals := 20 }) ss mm [.ref (ad 137), .int a1, .int a2].toArray bb mt cd H locs 0 0 (MQ bb (hp_Qv D vwCl (hp_Tl cA) sz (md_pic cA ad σ0) (fun u => u = md_pic cA ad p.2)) [.ref (ad 137), .int a1, .int a2].toArray ss 0 0 (hp_A (md_pic cA ad σ0) sz)) (F0 mm 55 ls [])) → W pp l ee ({ frames := 1, cells := 0, slots := 0, locals := 20 }) ss mm [.ref (ad 137), .int a1, .int a2].toArray bb mt cd H locs 0 0 (MQ bb (hp_Qv D vwCl (hp_Tl cA) sz (md_pic cA ad σ0) (fun u => u = md_pic cA ad p.2)) [.ref (ad 137), .int a1, .int a2].toArray ss 0 0 (hp_A (md_pic cA ad σ0) sz)) (F0 mm 35 ls []) := by
        intro j
        induction j with
        | zero => intro σ l2 l3 q H locs ls h; exact nomatch h
        | succ j ih =>
          intro σ l2 l3 q H locs ls h hw hl K
          refine lv_aload_n cx.1 cx.2.1 dX12_gets_35 rfl (lv_at hl 0 rfl) ?_
          refine md_gR (k := 71) cx hw hin12c (by decide) (by decide) (List.mem_cons_of_mem _ mm_134) dX12_gets_36 ?_
          refine lv_iload_n cx.1 cx.2.1 dX12_gets_39 rfl (lv_at hl 2 rfl) ?_
          obtain ⟨v4, e_v4, h⟩ := md_ob h
          refine md_lI (k := 71) hj cx hw (by decide) rfl rfl rfl e_v4 dX12_gets_40 ?_
          refine lv_iconst (v := (-1)) cx.1 cx.2.1 dX12_gets_41 (by decide) ?_
          refine lv_icmp_eq (tgt := 55) cx.1 cx.2.1 dX12_gets_42 (by decide) (fun c42 => ?_) (fun c42 => ?_)
          · have h := md_ip c42 h
            obtain rfl := Option.some.inj h
            exact K _ _ _ hw (lv_sub hl [0, 1, 2] rfl)
          · have h := md_in c42 h
            refine lv_aload_n cx.1 cx.2.1 dX12_gets_45 rfl (lv_at hl 0 rfl) ?_
            refine md_gR (k := 71) cx hw hin12c (by decide) (by decide) (List.mem_cons_of_mem _ mm_134) dX12_gets_46 ?_
            refine lv_iload_n cx.1 cx.2.1 dX12_gets_49 rfl (lv_at hl 2 rfl) ?_
            obtain ⟨v5, e_v5, h⟩ := md_ob h
            refine md_lI (k := 71) hj cx hw (by decide) rfl rfl rfl e_v5 dX12_gets_50 ?_
            refine lv_istore_n (lv' := [(3, .int v5), (0, .ref (ad 137)), (2, .int l2)]) cx.1 cx.2.1 dX12_gets_51 rfl hl (by decide) rfl (fun ls hl => ?_)
            refine lv_goto (tgt := 35) cx.1 cx.2.1 dX12_gets_52 (by decide) ?_
            exact ih σ l2 v5 q _ _ _ h hw (lv_sub hl [1, 2, 0] rfl) K
      obtain ⟨q6, e_q6, h⟩ := md_ob h
      refine L35 n σ2 a2 v3 q6 _ _ _ e_q6 hw (lv_sub hl [1, 3, 0] rfl) (fun H locs ls hw hl => ?_)
      refine lv_aload_n cx.1 cx.2.1 dX12_gets_55 rfl (lv_at hl 0 rfl) ?_
      refine md_gR (k := 71) cx hw hin12c (by decide) (by decide) (List.mem_cons_of_mem _ mm_134) dX12_gets_56 ?_
      refine lv_iload_n cx.1 cx.2.1 dX12_gets_59 rfl (lv_at hl 2 rfl) ?_
      refine lv_iload_n cx.1 cx.2.1 dX12_gets_60 rfl (lv_at hl 1 rfl) ?_
      obtain ⟨σ7, e_σ7, h⟩ := md_ob h
      refine md_sI (k := 71) hj cx hw (by decide) rfl rfl rfl e_σ7 dX12_gets_61 (fun H locs hw => ?_)
      exact hp_vret cx hw (md_retv h) dX12_gets_62
    · have h := md_ip c24 h
      refine lv_aload_n cx.1 cx.2.1 dX12_gets_27 rfl (lv_at hl 1 rfl) ?_
      refine md_gR (k := 70) cx hw hin12c (by decide) (by decide) (List.mem_cons_of_mem _ mm_133) dX12_gets_28 ?_
      refine lv_iload_n cx.1 cx.2.1 dX12_gets_31 rfl (lv_at hl 2 rfl) ?_
      refine lv_iload_n cx.1 cx.2.1 dX12_gets_32 rfl (lv_at hl 3 rfl) ?_
      obtain ⟨σ8, e_σ8, h⟩ := md_ob h
      refine md_sI (k := 70) hj cx hw (by decide) rfl rfl rfl e_σ8 dX12_gets_33 (fun H locs hw => ?_)
      exact hp_vret cx hw (md_retv h) dX12_gets_34
  · have h := md_ip c4 h
    exact hp_vret cx hw (md_retv h) dX12_gets_7
set_option maxHeartbeats 4000000 in
set_option maxRecDepth 100000 in
theorem km_X12_findDomains (l : Launch) (D : va_G) (cA : Nat → ClassId) (E : hp_N) (sz : Nat) (ad : Nat → Nat) (hj : md_inj ad) (hE : md_E E) (n : Nat) (σ0 : md_S) (p : (Int32 × md_S)) (h : f_X12_findDomains n σ0 = some p) : Met l yX12_findDomains (Cond.code yX12_findDomains cX12_findDomains 4 none :: v_MOD) ({ frames := 1, cells := 0, slots := 0, locals := 26 }) (hp_Pc D vwCl (hp_Tl cA) E sz (md_pic cA ad σ0) [.ref (ad 137)]) (hp_Qv D vwCl (hp_Tl cA) sz (md_pic cA ad σ0) (fun u => u = md_pic cA ad p.2)) 0 0 (hp_A (md_pic cA ad σ0) sz) := by
  refine hp_ofW (cc := cX12_findDomains) (maxL := 4) (ret := none) (by decide) rfl (Nat.le_of_ble_eq_true rfl) ?_
  intro pp ee ss mm bb mt cd ls cx hsz hw hl
  have hl : lv_has ls 4 [(0, .ref (ad 137))] := hl
  refine lv_aload_n cx.1 cx.2.1 dX12_findDomains_0 rfl (lv_at hl 0 rfl) ?_
  refine lv_iconst (v := 0) cx.1 cx.2.1 dX12_findDomains_1 (by decide) ?_
  obtain ⟨σ1, e_σ1, h⟩ := md_ob h
  refine md_pI (k := 34) cx hw hin12c rfl (by decide) rfl (List.mem_cons_of_mem _ mm_136) rfl e_σ1 dX12_findDomains_2 (fun H locs hw => ?_)
  refine lv_iconst (v := 0) cx.1 cx.2.1 dX12_findDomains_5 (by decide) ?_
  refine lv_istore_n (lv' := [(1, .int 0), (0, .ref (ad 137))]) cx.1 cx.2.1 dX12_findDomains_6 rfl hl (by decide) rfl (fun ls hl => ?_)
  have L7 : ∀ (j : Nat) (σ : md_S) (l1 : Int32) (q : (md_S × Int32)) (H : Heap) (locs : List Loc) (ls : Array Slot), f_X12_findDomains_L7 n j σ l1 = some q → hp_w D vwCl (hp_Tl cA) E (hp_A (md_pic cA ad σ0) sz) ss H locs (md_pic cA ad σ) → lv_has ls 4 [(0, .ref (ad 137)), (1, .int l1)] → (∀ (H : Heap) (locs : List Loc) (ls : Array Slot), hp_w D vwCl (hp_Tl cA) E (hp_A (md_pic cA ad σ0) sz) ss H locs (md_pic cA ad q.1) → lv_has ls 4 [] → W pp l ee ({ frames := 1, cells := 0, slots := 0, locals := 26 }) ss mm [.ref (ad 137)].toArray bb mt cd H locs 0 0 (MQ bb (hp_Qv D vwCl (hp_Tl cA) sz (md_pic cA ad σ0) (fun u => u = md_pic cA ad p.2)) [.ref (ad 137)].toArray ss 0 0 (hp_A (md_pic cA ad σ0) sz)) (F0 mm 152 ls [])) → W pp l ee ({ frames := 1, cells := 0, slots := 0, locals := 26 }) ss mm [.ref (ad 137)].toArray bb mt cd H locs 0 0 (MQ bb (hp_Qv D vwCl (hp_Tl cA) sz (md_pic cA ad σ0) (fun u => u = md_pic cA ad p.2)) [.ref (ad 137)].toArray ss 0 0 (hp_A (md_pic cA ad σ0) sz)) (F0 mm 7 ls []) := by
    intro j
    induction j with
    | zero => intro σ l1 q H locs ls h; exact nomatch h
    | succ j ih =>
      intro σ l1 q H locs ls h hw hl K
      have J146 : ∀ (σ : md_S) (l1 : Int32) (H : Heap) (locs : List Loc) (ls : Array Slot), f_X12_findDomains_J146 n (f_X12_findDomains_L7 n j) σ l1 = some q → hp_w D vwCl (hp_Tl cA) E (hp_A (md_pic cA ad σ0) sz) ss H locs (md_pic cA ad σ) → lv_has ls 4 [(0, .ref (ad 137)), (1, .int l1)] → W pp l ee ({ frames := 1, cells := 0, slots := 0, locals := 26 }) ss mm [.ref (ad 137)].toArray bb mt cd H locs 0 0 (MQ bb (hp_Qv D vwCl (hp_Tl cA) sz (md_pic cA ad σ0) (fun u => u = md_pic cA ad p.2)) [.ref (ad 137)].toArray ss 0 0 (hp_A (md_pic cA ad σ0) sz)) (F0 mm 146 ls []) := by
        intro σ l1 H locs ls h hw hl
        refine lv_iinc (v := (l1 + 1)) (lv' := [(1, .int (l1 + 1)), (0, .ref (ad 137))]) cx.1 cx.2.1 dX12_findDomains_146 hl (k := 1) rfl rfl (by decide) rfl (fun ls hl => ?_)
        refine lv_goto (tgt := 7) cx.1 cx.2.1 dX12_findDomains_149 (by decide) ?_
        exact ih σ ((l1 + 1)) q _ _ _ h hw (lv_sub hl [1, 0] rfl) K
      refine lv_iload_n cx.1 cx.2.1 dX12_findDomains_7 rfl (lv_at hl 1 rfl) ?_
      refine lv_aload_n cx.1 cx.2.1 dX12_findDomains_8 rfl (lv_at hl 0 rfl) ?_
      refine md_gI (k := 25) cx hw hin12c rfl (by decide) (List.mem_cons_of_mem _ mm_137) dX12_findDomains_9 ?_
      refine lv_icmp_ge (tgt := 152) cx.1 cx.2.1 dX12_findDomains_12 (by decide) (fun c12 => ?_) (fun c12 => ?_)
      · have h := md_ip c12 h
        obtain rfl := Option.some.inj h
        exact K _ _ _ hw (lv_sub hl [] rfl)
      · have h := md_in c12 h
        refine lv_iconst (v := 0) cx.1 cx.2.1 dX12_findDomains_15 (by decide) ?_
        refine lv_istore_n (lv' := [(2, .int 0), (0, .ref (ad 137)), (1, .int l1)]) cx.1 cx.2.1 dX12_findDomains_16 rfl hl (by decide) rfl (fun ls hl => ?_)
        refine lv_iconst (v := 0) cx.1 cx.2.1 dX12_findDomains_17 (by decide) ?_
        refine lv_istore_n (lv' := [(3, .int 0), (2, .int 0), (0, .ref (ad 137)), (1, .int l1)]) cx.1 cx.2.1 dX12_findDomains_18 rfl hl (by decide) rfl (fun ls hl => ?_)
        have L19 : ∀ (j : Nat) (σ : md_S) (l1 : Int32) (l2 : Int32) (l3 : Int32) (q : (md_S × Int32 × Int32)) (H : Heap) (locs : List Loc) (ls : Array Slot), f_X12_findDomains_L19 n l1 j σ l2 l3 = some q → hp_w D vwCl (hp_Tl cA) E (hp_A (md_pic cA ad σ0) sz) ss H locs (md_pic cA ad σ) → lv_has ls 4 [(0, .ref (ad 137)), (1, .int l1), (2, .int l2), (3, .int l3)] → (∀ (H : Heap) (locs : List Loc) (ls : Array Slot), hp_w D vwCl (hp_Tl cA) E (hp_A (md_pic cA ad σ0) sz) ss H locs (md_pic cA ad q.1) → lv_has ls 4 [(0, .ref (ad 137)), (1, .int l1), (2, .int q.2.1)] → W pp l ee ({ frames := 1, cells := 0, slots := 0, locals := 26 }) ss mm [.ref (ad 137)].toArray bb mt cd H locs 0 0 (MQ bb (hp_Qv D vwCl (hp_Tl cA) sz (md_pic cA ad σ0) (fun u => u = md_pic cA ad p.2)) [.ref (ad 137)].toArray ss 0 0 (hp_A (md_pic cA ad σ0) sz)) (F0 mm 57 ls [])) → W pp l ee ({ frames := 1, cells := 0, slots := 0, locals := 26 }) ss mm [.ref (ad 137)].toArray bb mt cd H locs 0 0 (MQ bb (hp_Qv D vwCl (hp_Tl cA) sz (md_pic cA ad σ0) (fun u => u = md_pic cA ad p.2)) [.ref (ad 137)].toArray ss 0 0 (hp_A (md_pic cA ad σ0) sz)) (F0 mm 19 ls []) := by
          intro j
          induction j with
          | zero => intro σ l1 l2 l3 q H locs ls h; exact nomatch h
          | succ j ih =>
            intro σ l1 l2 l3 q H locs ls h hw hl K
            have J49 : ∀ (σ : md_S) (l3 : Int32) (t0 : Int32) (t1 : Int32) (H : Heap) (locs : List Loc) (ls : Array Slot), f_X12_findDomains_J49 n l1 (f_X12_findDomains_L19 n l1 j) σ l3 t0 t1 = some q → hp_w D vwCl (hp_Tl cA) E (hp_A (md_pic cA ad σ0) sz) ss H locs (md_pic cA ad σ) → lv_has ls 4 [(0, .ref (ad 137)), (1, .int l1), (3, .int l3)] → W pp l ee ({ frames := 1, cells := 0, slots := 0, locals := 26 }) ss mm [.ref (ad 137)].toArray bb mt cd H locs 0 0 (MQ bb (hp_Qv D vwCl (hp_Tl cA) sz (md_pic cA ad σ0) (fun u => u = md_pic cA ad p.2)) [.ref (ad 137)].toArray ss 0 0 (hp_A (md_pic cA ad σ0) sz)) (F0 mm 49 ls [.int t0, .int t1]) := by
              intro σ l3 t0 t1 H locs ls h hw hl
              refine lv_ior cx.1 cx.2.1 dX12_findDomains_49 ?_
              refine lv_istore_n (lv' := [(2, .int (t1 ||| t0)), (0, .ref (ad 137)), (1, .int l1), (3, .int l3)]) cx.1 cx.2.1 dX12_findDomains_50 rfl hl (by decide) rfl (fun ls hl => ?_)
              refine lv_iinc (v := (l3 + 1)) (lv' := [(3, .int (l3 + 1)), (2, .int (t1 ||| t0)), (0, .ref (ad 137)), (1, .int l1)]) cx.1 cx.2.1 dX12_findDomains_51 hl (k := 3) rfl rfl (by decide) rfl (fun ls hl => ?_)
              refine lv_goto (tgt := 19) cx.1 cx.2.1 dX12_findDomains_54 (by decide) ?_
              exact ih σ l1 ((t1 ||| t0)) ((l3 + 1)) q _ _ _ h hw (lv_sub hl [2, 3, 1, 0] rfl) K
            refine lv_iload_n cx.1 cx.2.1 dX12_findDomains_19 rfl (lv_at hl 3 rfl) ?_
            refine lv_aload_n cx.1 cx.2.1 dX12_findDomains_20 rfl (lv_at hl 0 rfl) ?_
            refine md_gI (k := 20) cx hw hin12c rfl (by decide) (List.mem_cons_of_mem _ mm_121) dX12_findDomains_21 ?_
            refine lv_icmp_ge (tgt := 57) cx.1 cx.2.1 dX12_findDomains_24 (by decide) (fun c24 => ?_) (fun c24 => ?_)
            · have h := md_ip c24 h
              obtain rfl := Option.some.inj h
              exact K _ _ _ hw (lv_sub hl [0, 1, 2] rfl)
            · have h := md_in c24 h
              refine lv_iload_n cx.1 cx.2.1 dX12_findDomains_27 rfl (lv_at hl 2 rfl) ?_
              refine lv_aload_n cx.1 cx.2.1 dX12_findDomains_28 rfl (lv_at hl 0 rfl) ?_
              refine lv_bipush (v := 8) cx.1 cx.2.1 dX12_findDomains_29 (by decide) ?_
              refine lv_iload_n cx.1 cx.2.1 dX12_findDomains_31 rfl (lv_at hl 3 rfl) ?_
              refine lv_iadd cx.1 cx.2.1 dX12_findDomains_32 ?_
              refine lv_iconst (v := 0) cx.1 cx.2.1 dX12_findDomains_33 (by decide) ?_
              refine lv_iload_n cx.1 cx.2.1 dX12_findDomains_34 rfl (lv_at hl 1 rfl) ?_
              refine lv_iadd cx.1 cx.2.1 dX12_findDomains_35 ?_
              obtain ⟨p2, e_p2, h⟩ := md_ob h
              refine hp_callVi (As := [.int ((8 : Int32) + l3), .int ((0 : Int32) + l1)]) (rest := [.int l2]) cx hw (km_X12_covers l D cA E _ ad hj hE n σ (((8 : Int32) + l3)) (((0 : Int32) + l1)) p2 e_p2) (cwV 2 cx.2.2.2.2.2.1 (md_giV mm_117 mm_118 mm_119 mm_5 mm_120) rfl rfl rfl hd_X12_covers ⟨Nat.le_of_ble_eq_true rfl, Nat.le_of_ble_eq_true rfl⟩) md_at0 rfl rfl hl.1 rfl (Nat.le_of_ble_eq_true rfl) dX12_findDomains_36 ⟨Nat.le_refl _, Nat.le_refl _⟩ (fun r u H locs hp hw => ?_)
              obtain ⟨rfl, rfl⟩ := hp
              refine lv_if_eq (tgt := 48) cx.1 cx.2.1 dX12_findDomains_39 (by decide) (fun c39 => ?_) (fun c39 => ?_)
              · have h := md_ip c39 h
                refine lv_iconst (v := 0) cx.1 cx.2.1 dX12_findDomains_48 (by decide) ?_
                exact J49 p2.2 l3 0 l2 _ _ _ h hw (lv_sub hl [0, 1, 3] rfl)
              · have h := md_in c39 h
                refine lv_iconst (v := 1) cx.1 cx.2.1 dX12_findDomains_42 (by decide) ?_
                refine lv_iload_n cx.1 cx.2.1 dX12_findDomains_43 rfl (lv_at hl 3 rfl) ?_
                refine lv_ishl cx.1 cx.2.1 dX12_findDomains_44 ?_
                refine lv_goto (tgt := 49) cx.1 cx.2.1 dX12_findDomains_45 (by decide) ?_
                exact J49 p2.2 l3 (((1 : Int32) <<< (l3 &&& 31))) l2 _ _ _ h hw (lv_sub hl [0, 1, 3] rfl)
        obtain ⟨q3, e_q3, h⟩ := md_ob h
        refine L19 n σ l1 0 0 q3 _ _ _ e_q3 hw (lv_sub hl [2, 3, 1, 0] rfl) (fun H locs ls hw hl => ?_)
        refine lv_aload_n cx.1 cx.2.1 dX12_findDomains_57 rfl (lv_at hl 0 rfl) ?_
        refine md_gR (k := 32) cx hw hin12c (by decide) (by decide) (List.mem_cons_of_mem _ mm_138) dX12_findDomains_58 ?_
        refine lv_iload_n cx.1 cx.2.1 dX12_findDomains_61 rfl (lv_at hl 1 rfl) ?_
        refine lv_iconst (v := (-1)) cx.1 cx.2.1 dX12_findDomains_62 (by decide) ?_
        obtain ⟨σ4, e_σ4, h⟩ := md_ob h
        refine md_sI (k := 32) hj cx hw (by decide) rfl rfl rfl e_σ4 dX12_findDomains_63 (fun H locs hw => ?_)
        refine lv_iconst (v := 0) cx.1 cx.2.1 dX12_findDomains_64 (by decide) ?_
        refine lv_istore_n (lv' := [(3, .int 0), (0, .ref (ad 137)), (1, .int l1), (2, .int q3.2.1)]) cx.1 cx.2.1 dX12_findDomains_65 rfl hl (by decide) rfl (fun ls hl => ?_)
        have L66 : ∀ (j : Nat) (σ : md_S) (l1 : Int32) (l2 : Int32) (l3 : Int32) (q : (md_S × Int32)) (H : Heap) (locs : List Loc) (ls : Array Slot), f_X12_findDomains_L66 n l1 l2 j σ l3 = some q → hp_w D vwCl (hp_Tl cA) E (hp_A (md_pic cA ad σ0) sz) ss H locs (md_pic cA ad σ) → lv_has ls 4 [(0, .ref (ad 137)), (1, .int l1), (2, .int l2), (3, .int l3)] → (∀ (H : Heap) (locs : List Loc) (ls : Array Slot), hp_w D vwCl (hp_Tl cA) E (hp_A (md_pic cA ad σ0) sz) ss H locs (md_pic cA ad q.1) → lv_has ls 4 [(0, .ref (ad 137)), (1, .int l1), (2, .int l2)] → W pp l ee ({ frames := 1, cells := 0, slots := 0, locals := 26 }) ss mm [.ref (ad 137)].toArray bb mt cd H locs 0 0 (MQ bb (hp_Qv D vwCl (hp_Tl cA) sz (md_pic cA ad σ0) (fun u => u = md_pic cA ad p.2)) [.ref (ad 137)].toArray ss 0 0 (hp_A (md_pic cA ad σ0) sz)) (F0 mm 106 ls [])) → W pp l ee ({ frames := 1, cells := 0, slots := 0, locals := 26 }) ss mm [.ref (ad 137)].toArray bb mt cd H locs 0 0 (MQ bb (hp_Qv D vwCl (hp_Tl cA) sz (md_pic cA ad σ0) (fun u => u = md_pic cA ad p.2)) [.ref (ad 137)].toArray ss 0 0 (hp_A (md_pic cA ad σ0) sz)) (F0 mm 66 ls []) := by
          intro j
          induction j with
          | zero => intro σ l1 l2 l3 q H locs ls h; exact nomatch h
          | succ j ih =>
            intro σ l1 l2 l3 q H locs ls h hw hl K
            have J99 : ∀ (σ : md_S) (l3 : Int32) (t0 : Int32) (t1 : Int32) (H : Heap) (locs : List Loc) (ls : Array Slot), f_X12_findDomains_J99 n l1 l2 (f_X12_findDomains_L66 n l1 l2 j) σ l3 t0 t1 = some q → hp_w D vwCl (hp_Tl cA) E (hp_A (md_pic cA ad σ0) sz) ss H locs (md_pic cA ad σ) → lv_has ls 4 [(0, .ref (ad 137)), (1, .int l1), (2, .int l2), (3, .int l3)] → W pp l ee ({ frames := 1, cells := 0, slots := 0, locals := 26 }) ss mm [.ref (ad 137)].toArray bb mt cd H locs 0 0 (MQ bb (hp_Qv D vwCl (hp_Tl cA) sz (md_pic cA ad σ0) (fun u => u = md_pic cA ad p.2)) [.ref (ad 137)].toArray ss 0 0 (hp_A (md_pic cA ad σ0) sz)) (F0 mm 99 ls [.int t0, .int t1, .ref (ad 32)]) := by
              intro σ l3 t0 t1 H locs ls h hw hl
              obtain ⟨σ5, e_σ5, h⟩ := md_ob h
              refine md_sI (k := 32) hj cx hw (by decide) rfl rfl rfl e_σ5 dX12_findDomains_99 (fun H locs hw => ?_)
              refine lv_iinc (v := (l3 + 1)) (lv' := [(3, .int (l3 + 1)), (0, .ref (ad 137)), (1, .int l1), (2, .int l2)]) cx.1 cx.2.1 dX12_findDomains_100 hl (k := 3) rfl rfl (by decide) rfl (fun ls hl => ?_)
              refine lv_goto (tgt := 66) cx.1 cx.2.1 dX12_findDomains_103 (by decide) ?_
              exact ih σ5 l1 l2 ((l3 + 1)) q _ _ _ h hw (lv_sub hl [1, 2, 3, 0] rfl) K
            refine lv_iload_n cx.1 cx.2.1 dX12_findDomains_66 rfl (lv_at hl 3 rfl) ?_
            refine lv_aload_n cx.1 cx.2.1 dX12_findDomains_67 rfl (lv_at hl 0 rfl) ?_
            refine md_gI (k := 34) cx hw hin12c rfl (by decide) (List.mem_cons_of_mem _ mm_136) dX12_findDomains_68 ?_
            refine lv_icmp_ge (tgt := 106) cx.1 cx.2.1 dX12_findDomains_71 (by decide) (fun c71 => ?_) (fun c71 => ?_)
            · have h := md_ip c71 h
              obtain rfl := Option.some.inj h
              exact K _ _ _ hw (lv_sub hl [0, 1, 2] rfl)
            · have h := md_in c71 h
              refine lv_aload_n cx.1 cx.2.1 dX12_findDomains_74 rfl (lv_at hl 0 rfl) ?_
              refine md_gR (k := 32) cx hw hin12c (by decide) (by decide) (List.mem_cons_of_mem _ mm_138) dX12_findDomains_75 ?_
              refine lv_iload_n cx.1 cx.2.1 dX12_findDomains_78 rfl (lv_at hl 1 rfl) ?_
              refine lv_aload_n cx.1 cx.2.1 dX12_findDomains_79 rfl (lv_at hl 0 rfl) ?_
              refine md_gR (k := 33) cx hw hin12c (by decide) (by decide) (List.mem_cons_of_mem _ mm_122) dX12_findDomains_80 ?_
              refine lv_iload_n cx.1 cx.2.1 dX12_findDomains_83 rfl (lv_at hl 3 rfl) ?_
              obtain ⟨v6, e_v6, h⟩ := md_ob h
              refine md_lI (k := 33) hj cx hw (by decide) rfl rfl rfl e_v6 dX12_findDomains_84 ?_
              refine lv_iload_n cx.1 cx.2.1 dX12_findDomains_85 rfl (lv_at hl 2 rfl) ?_
              refine lv_icmp_ne (tgt := 93) cx.1 cx.2.1 dX12_findDomains_86 (by decide) (fun c86 => ?_) (fun c86 => ?_)
              · have h := md_in c86 h
                refine lv_aload_n cx.1 cx.2.1 dX12_findDomains_93 rfl (lv_at hl 0 rfl) ?_
                refine md_gR (k := 32) cx hw hin12c (by decide) (by decide) (List.mem_cons_of_mem _ mm_138) dX12_findDomains_94 ?_
                refine lv_iload_n cx.1 cx.2.1 dX12_findDomains_97 rfl (lv_at hl 1 rfl) ?_
                obtain ⟨v7, e_v7, h⟩ := md_ob h
                refine md_lI (k := 32) hj cx hw (by decide) rfl rfl rfl e_v7 dX12_findDomains_98 ?_
                exact J99 σ l3 v7 l1 _ _ _ h hw (lv_sub hl [0, 1, 2, 3] rfl)
              · have h := md_ip c86 h
                refine lv_iload_n cx.1 cx.2.1 dX12_findDomains_89 rfl (lv_at hl 3 rfl) ?_
                refine lv_goto (tgt := 99) cx.1 cx.2.1 dX12_findDomains_90 (by decide) ?_
                exact J99 σ l3 l3 l1 _ _ _ h hw (lv_sub hl [0, 1, 2, 3] rfl)
        obtain ⟨q8, e_q8, h⟩ := md_ob h
        refine L66 n σ4 l1 (q3.2.1) 0 q8 _ _ _ e_q8 hw (lv_sub hl [1, 2, 3, 0] rfl) (fun H locs ls hw hl => ?_)
        refine lv_aload_n cx.1 cx.2.1 dX12_findDomains_106 rfl (lv_at hl 0 rfl) ?_
        refine md_gR (k := 32) cx hw hin12c (by decide) (by decide) (List.mem_cons_of_mem _ mm_138) dX12_findDomains_107 ?_
        refine lv_iload_n cx.1 cx.2.1 dX12_findDomains_110 rfl (lv_at hl 1 rfl) ?_
        obtain ⟨v9, e_v9, h⟩ := md_ob h
        refine md_lI (k := 32) hj cx hw (by decide) rfl rfl rfl e_v9 dX12_findDomains_111 ?_
        refine lv_iconst (v := (-1)) cx.1 cx.2.1 dX12_findDomains_112 (by decide) ?_
        refine lv_icmp_ne (tgt := 146) cx.1 cx.2.1 dX12_findDomains_113 (by decide) (fun c113 => ?_) (fun c113 => ?_)
        · have h := md_in c113 h
          exact J146 q8.1 l1 _ _ _ h hw (lv_sub hl [0, 1] rfl)
        · have h := md_ip c113 h
          refine lv_aload_n cx.1 cx.2.1 dX12_findDomains_116 rfl (lv_at hl 0 rfl) ?_
          refine md_gR (k := 32) cx hw hin12c (by decide) (by decide) (List.mem_cons_of_mem _ mm_138) dX12_findDomains_117 ?_
          refine lv_iload_n cx.1 cx.2.1 dX12_findDomains_120 rfl (lv_at hl 1 rfl) ?_
          refine lv_aload_n cx.1 cx.2.1 dX12_findDomains_121 rfl (lv_at hl 0 rfl) ?_
          refine md_gI (k := 34) cx hw hin12c rfl (by decide) (List.mem_cons_of_mem _ mm_136) dX12_findDomains_122 ?_
          obtain ⟨σ10, e_σ10, h⟩ := md_ob h
          refine md_sI (k := 32) hj cx hw (by decide) rfl rfl rfl e_σ10 dX12_findDomains_125 (fun H locs hw => ?_)
          refine lv_aload_n cx.1 cx.2.1 dX12_findDomains_126 rfl (lv_at hl 0 rfl) ?_
          refine md_gR (k := 33) cx hw hin12c (by decide) (by decide) (List.mem_cons_of_mem _ mm_122) dX12_findDomains_127 ?_
          refine lv_aload_n cx.1 cx.2.1 dX12_findDomains_130 rfl (lv_at hl 0 rfl) ?_
          refine md_gI (k := 34) cx hw hin12c rfl (by decide) (List.mem_cons_of_mem _ mm_136) dX12_findDomains_131 ?_
          refine lv_iload_n cx.1 cx.2.1 dX12_findDomains_134 rfl (lv_at hl 2 rfl) ?_
          obtain ⟨σ11, e_σ11, h⟩ := md_ob h
          refine md_sI (k := 33) hj cx hw (by decide) rfl rfl rfl e_σ11 dX12_findDomains_135 (fun H locs hw => ?_)
          refine lv_aload_n cx.1 cx.2.1 dX12_findDomains_136 rfl (lv_at hl 0 rfl) ?_
          refine lv_dup cx.1 cx.2.1 dX12_findDomains_137 rfl ?_
          refine md_gI (k := 34) cx hw hin12c rfl (by decide) (List.mem_cons_of_mem _ mm_136) dX12_findDomains_138 ?_
          refine lv_iconst (v := 1) cx.1 cx.2.1 dX12_findDomains_141 (by decide) ?_
          refine lv_iadd cx.1 cx.2.1 dX12_findDomains_142 ?_
          obtain ⟨σ12, e_σ12, h⟩ := md_ob h
          refine md_pI (k := 34) cx hw hin12c rfl (by decide) rfl (List.mem_cons_of_mem _ mm_136) rfl e_σ12 dX12_findDomains_143 (fun H locs hw => ?_)
          exact J146 σ12 l1 _ _ _ h hw (lv_sub hl [0, 1] rfl)
  obtain ⟨q13, e_q13, h⟩ := md_ob h
  refine L7 n σ1 0 q13 _ _ _ e_q13 hw (lv_sub hl [1, 0] rfl) (fun H locs ls hw hl => ?_)
  exact hp_vret cx hw (md_retv h) dX12_findDomains_152
set_option maxHeartbeats 4000000 in
set_option maxRecDepth 100000 in
theorem km_X12_areOfOne (l : Launch) (D : va_G) (cA : Nat → ClassId) (E : hp_N) (sz : Nat) (ad : Nat → Nat) (hj : md_inj ad) (hE : md_E E) (n : Nat) (σ0 : md_S) (a1 : Int32) (a2 : Int32) (p : (Int32 × md_S)) (h : f_X12_areOfOne n σ0 a1 a2 = some p) : Met l yX12_areOfOne (Cond.code yX12_areOfOne cX12_areOfOne 3 (some .boolean) :: v_MOD) ({ frames := 0, cells := 0, slots := 0, locals := 0 }) (hp_Pc D vwCl (hp_Tl cA) E sz (md_pic cA ad σ0) [.ref (ad 137), .int a1, .int a2]) (hp_Qi D vwCl (hp_Tl cA) sz (md_pic cA ad σ0) (fun r u => r = p.1 ∧ u = md_pic cA ad p.2)) 0 0 (hp_A (md_pic cA ad σ0) sz) := by
  refine hp_ofW (cc := cX12_areOfOne) (maxL := 3) (ret := (some .boolean)) (by decide) rfl (Nat.le_of_ble_eq_true rfl) ?_
  intro pp ee ss mm bb mt cd ls cx hsz hw hl
  have hl : lv_has ls 3 [(0, .ref (ad 137)), (1, .int a1), (2, .int a2)] := hl
  have J65 : ∀ (σ : md_S) (H : Heap) (locs : List Loc) (ls : Array Slot), f_X12_areOfOne_J65 n σ = some p → hp_w D vwCl (hp_Tl cA) E (hp_A (md_pic cA ad σ0) sz) ss H locs (md_pic cA ad σ) → lv_has ls 3 [] → W pp l ee ({ frames := 0, cells := 0, slots := 0, locals := 0 }) ss mm [.ref (ad 137), .int a1, .int a2].toArray bb mt cd H locs 0 0 (MQ bb (hp_Qi D vwCl (hp_Tl cA) sz (md_pic cA ad σ0) (fun r u => r = p.1 ∧ u = md_pic cA ad p.2)) [.ref (ad 137), .int a1, .int a2].toArray ss 0 0 (hp_A (md_pic cA ad σ0) sz)) (F0 mm 65 ls []) := by
    intro σ H locs ls h hw hl
    refine lv_iconst (v := 1) cx.1 cx.2.1 dX12_areOfOne_65 (by decide) ?_
    refine lv_goto (tgt := 70) cx.1 cx.2.1 dX12_areOfOne_66 (by decide) ?_
    exact hp_zret cx hw (md_ret h) (by decide) dX12_areOfOne_70
  refine lv_aload_n cx.1 cx.2.1 dX12_areOfOne_0 rfl (lv_at hl 0 rfl) ?_
  refine md_gR (k := 36) cx hw hin12c (by decide) (by decide) (List.mem_cons_of_mem _ mm_139) dX12_areOfOne_1 ?_
  refine lv_iload_n cx.1 cx.2.1 dX12_areOfOne_4 rfl (lv_at hl 1 rfl) ?_
  obtain ⟨v1, e_v1, h⟩ := md_ob h
  refine md_lI (k := 36) hj cx hw (by decide) rfl rfl rfl e_v1 dX12_areOfOne_5 ?_
  refine lv_aload_n cx.1 cx.2.1 dX12_areOfOne_6 rfl (lv_at hl 0 rfl) ?_
  refine md_gR (k := 36) cx hw hin12c (by decide) (by decide) (List.mem_cons_of_mem _ mm_139) dX12_areOfOne_7 ?_
  refine lv_iload_n cx.1 cx.2.1 dX12_areOfOne_10 rfl (lv_at hl 2 rfl) ?_
  obtain ⟨v2, e_v2, h⟩ := md_ob h
  refine md_lI (k := 36) hj cx hw (by decide) rfl rfl rfl e_v2 dX12_areOfOne_11 ?_
  refine lv_icmp_ne (tgt := 69) cx.1 cx.2.1 dX12_areOfOne_12 (by decide) (fun c12 => ?_) (fun c12 => ?_)
  · have h := md_in c12 h
    refine lv_iconst (v := 0) cx.1 cx.2.1 dX12_areOfOne_69 (by decide) ?_
    exact hp_zret cx hw (md_ret h) (by decide) dX12_areOfOne_70
  · have h := md_ip c12 h
    refine lv_aload_n cx.1 cx.2.1 dX12_areOfOne_15 rfl (lv_at hl 0 rfl) ?_
    refine md_gR (k := 39) cx hw hin12c (by decide) (by decide) (List.mem_cons_of_mem _ mm_140) dX12_areOfOne_16 ?_
    refine lv_iload_n cx.1 cx.2.1 dX12_areOfOne_19 rfl (lv_at hl 1 rfl) ?_
    obtain ⟨v3, e_v3, h⟩ := md_ob h
    refine md_lI (k := 39) hj cx hw (by decide) rfl rfl rfl e_v3 dX12_areOfOne_20 ?_
    refine lv_aload_n cx.1 cx.2.1 dX12_areOfOne_21 rfl (lv_at hl 0 rfl) ?_
    refine md_gR (k := 39) cx hw hin12c (by decide) (by decide) (List.mem_cons_of_mem _ mm_140) dX12_areOfOne_22 ?_
    refine lv_iload_n cx.1 cx.2.1 dX12_areOfOne_25 rfl (lv_at hl 2 rfl) ?_
    obtain ⟨v4, e_v4, h⟩ := md_ob h
    refine md_lI (k := 39) hj cx hw (by decide) rfl rfl rfl e_v4 dX12_areOfOne_26 ?_
    refine lv_icmp_ne (tgt := 69) cx.1 cx.2.1 dX12_areOfOne_27 (by decide) (fun c27 => ?_) (fun c27 => ?_)
    · have h := md_in c27 h
      refine lv_iconst (v := 0) cx.1 cx.2.1 dX12_areOfOne_69 (by decide) ?_
      exact hp_zret cx hw (md_ret h) (by decide) dX12_areOfOne_70
    · have h := md_ip c27 h
      refine lv_aload_n cx.1 cx.2.1 dX12_areOfOne_30 rfl (lv_at hl 0 rfl) ?_
      refine md_gR (k := 36) cx hw hin12c (by decide) (by decide) (List.mem_cons_of_mem _ mm_139) dX12_areOfOne_31 ?_
      refine lv_iload_n cx.1 cx.2.1 dX12_areOfOne_34 rfl (lv_at hl 1 rfl) ?_
      obtain ⟨v5, e_v5, h⟩ := md_ob h
      refine md_lI (k := 36) hj cx hw (by decide) rfl rfl rfl e_v5 dX12_areOfOne_35 ?_
      refine lv_iconst (v := 1) cx.1 cx.2.1 dX12_areOfOne_36 (by decide) ?_
      refine lv_icmp_eq (tgt := 65) cx.1 cx.2.1 dX12_areOfOne_37 (by decide) (fun c37 => ?_) (fun c37 => ?_)
      · have h := md_ip c37 h
        exact J65 σ0 _ _ _ h hw (lv_sub hl [] rfl)
      · have h := md_in c37 h
        refine lv_aload_n cx.1 cx.2.1 dX12_areOfOne_40 rfl (lv_at hl 0 rfl) ?_
        refine md_gR (k := 36) cx hw hin12c (by decide) (by decide) (List.mem_cons_of_mem _ mm_139) dX12_areOfOne_41 ?_
        refine lv_iload_n cx.1 cx.2.1 dX12_areOfOne_44 rfl (lv_at hl 1 rfl) ?_
        obtain ⟨v6, e_v6, h⟩ := md_ob h
        refine md_lI (k := 36) hj cx hw (by decide) rfl rfl rfl e_v6 dX12_areOfOne_45 ?_
        refine lv_if_ne (tgt := 69) cx.1 cx.2.1 dX12_areOfOne_46 (by decide) (fun c46 => ?_) (fun c46 => ?_)
        · have h := md_in c46 h
          refine lv_iconst (v := 0) cx.1 cx.2.1 dX12_areOfOne_69 (by decide) ?_
          exact hp_zret cx hw (md_ret h) (by decide) dX12_areOfOne_70
        · have h := md_ip c46 h
          refine lv_aload_n cx.1 cx.2.1 dX12_areOfOne_49 rfl (lv_at hl 0 rfl) ?_
          refine md_gR (k := 43) cx hw hin12c (by decide) (by decide) (List.mem_cons_of_mem _ mm_141) dX12_areOfOne_50 ?_
          refine lv_iload_n cx.1 cx.2.1 dX12_areOfOne_53 rfl (lv_at hl 1 rfl) ?_
          obtain ⟨v7, e_v7, h⟩ := md_ob h
          refine md_lJ (k := 43) hj cx hw (by decide) rfl rfl rfl e_v7 dX12_areOfOne_54 ?_
          refine lv_aload_n cx.1 cx.2.1 dX12_areOfOne_55 rfl (lv_at hl 0 rfl) ?_
          refine md_gR (k := 43) cx hw hin12c (by decide) (by decide) (List.mem_cons_of_mem _ mm_141) dX12_areOfOne_56 ?_
          refine lv_iload_n cx.1 cx.2.1 dX12_areOfOne_59 rfl (lv_at hl 2 rfl) ?_
          obtain ⟨v8, e_v8, h⟩ := md_ob h
          refine md_lJ (k := 43) hj cx hw (by decide) rfl rfl rfl e_v8 dX12_areOfOne_60 ?_
          refine W.lcmp cx.1 cx.2.1 dX12_areOfOne_61 ?_
          refine lv_if_ne (tgt := 69) cx.1 cx.2.1 dX12_areOfOne_62 (by decide) (fun c62 => ?_) (fun c62 => ?_)
          · have h := md_in c62 h
            refine lv_iconst (v := 0) cx.1 cx.2.1 dX12_areOfOne_69 (by decide) ?_
            exact hp_zret cx hw (md_ret h) (by decide) dX12_areOfOne_70
          · have h := md_ip c62 h
            exact J65 σ0 _ _ _ h hw (lv_sub hl [] rfl)
set_option maxHeartbeats 4000000 in
set_option maxRecDepth 100000 in
theorem km_X12_isOfGroup (l : Launch) (D : va_G) (cA : Nat → ClassId) (E : hp_N) (sz : Nat) (ad : Nat → Nat) (hj : md_inj ad) (hE : md_E E) (n : Nat) (σ0 : md_S) (a1 : Int32) (a2 : Int32) (p : (Int32 × md_S)) (h : f_X12_isOfGroup n σ0 a1 a2 = some p) : Met l yX12_isOfGroup (Cond.code yX12_isOfGroup cX12_isOfGroup 3 (some .boolean) :: v_MOD) ({ frames := 0, cells := 0, slots := 0, locals := 0 }) (hp_Pc D vwCl (hp_Tl cA) E sz (md_pic cA ad σ0) [.ref (ad 137), .int a1, .int a2]) (hp_Qi D vwCl (hp_Tl cA) sz (md_pic cA ad σ0) (fun r u => r = p.1 ∧ u = md_pic cA ad p.2)) 0 0 (hp_A (md_pic cA ad σ0) sz) := by
  refine hp_ofW (cc := cX12_isOfGroup) (maxL := 3) (ret := (some .boolean)) (by decide) rfl (Nat.le_of_ble_eq_true rfl) ?_
  intro pp ee ss mm bb mt cd ls cx hsz hw hl
  have hl : lv_has ls 3 [(0, .ref (ad 137)), (1, .int a1), (2, .int a2)] := hl
  refine lv_aload_n cx.1 cx.2.1 dX12_isOfGroup_0 rfl (lv_at hl 0 rfl) ?_
  refine md_gR (k := 66) cx hw hin12c (by decide) (by decide) (List.mem_cons_of_mem _ mm_128) dX12_isOfGroup_1 ?_
  refine lv_iload_n cx.1 cx.2.1 dX12_isOfGroup_4 rfl (lv_at hl 1 rfl) ?_
  obtain ⟨v1, e_v1, h⟩ := md_ob h
  refine md_lI (k := 66) hj cx hw (by decide) rfl rfl rfl e_v1 dX12_isOfGroup_5 ?_
  by_cases c6_7 : v1 = 7
  · refine lv_lookup (off := 34) (tgt := 40) cx.1 cx.2.1 dX12_isOfGroup_6 (by decide) (by rw [c6_7]; decide) (by decide) ?_
    have h := md_ip c6_7 h
    refine lv_aload_n cx.1 cx.2.1 dX12_isOfGroup_40 rfl (lv_at hl 0 rfl) ?_
    refine md_gR (k := 36) cx hw hin12c (by decide) (by decide) (List.mem_cons_of_mem _ mm_139) dX12_isOfGroup_41 ?_
    refine lv_iload_n cx.1 cx.2.1 dX12_isOfGroup_44 rfl (lv_at hl 2 rfl) ?_
    obtain ⟨v2, e_v2, h⟩ := md_ob h
    refine md_lI (k := 36) hj cx hw (by decide) rfl rfl rfl e_v2 dX12_isOfGroup_45 ?_
    refine lv_if_ne (tgt := 89) cx.1 cx.2.1 dX12_isOfGroup_46 (by decide) (fun c46 => ?_) (fun c46 => ?_)
    · have h := md_in c46 h
      refine lv_iconst (v := 0) cx.1 cx.2.1 dX12_isOfGroup_89 (by decide) ?_
      exact hp_zret cx hw (md_ret h) (by decide) dX12_isOfGroup_90
    · have h := md_ip c46 h
      refine lv_aload_n cx.1 cx.2.1 dX12_isOfGroup_49 rfl (lv_at hl 0 rfl) ?_
      refine md_gR (k := 43) cx hw hin12c (by decide) (by decide) (List.mem_cons_of_mem _ mm_141) dX12_isOfGroup_50 ?_
      refine lv_iload_n cx.1 cx.2.1 dX12_isOfGroup_53 rfl (lv_at hl 2 rfl) ?_
      obtain ⟨v3, e_v3, h⟩ := md_ob h
      refine md_lJ (k := 43) hj cx hw (by decide) rfl rfl rfl e_v3 dX12_isOfGroup_54 ?_
      refine lv_aload_n cx.1 cx.2.1 dX12_isOfGroup_55 rfl (lv_at hl 0 rfl) ?_
      refine md_gR (k := 61) cx hw hin12c (by decide) (by decide) (List.mem_cons_of_mem _ mm_142) dX12_isOfGroup_56 ?_
      refine lv_aload_n cx.1 cx.2.1 dX12_isOfGroup_59 rfl (lv_at hl 0 rfl) ?_
      refine md_gR (k := 68) cx hw hin12c (by decide) (by decide) (List.mem_cons_of_mem _ mm_131) dX12_isOfGroup_60 ?_
      refine lv_iload_n cx.1 cx.2.1 dX12_isOfGroup_63 rfl (lv_at hl 1 rfl) ?_
      obtain ⟨v4, e_v4, h⟩ := md_ob h
      refine md_lI (k := 68) hj cx hw (by decide) rfl rfl rfl e_v4 dX12_isOfGroup_64 ?_
      obtain ⟨v5, e_v5, h⟩ := md_ob h
      refine md_lJ (k := 61) hj cx hw (by decide) rfl rfl rfl e_v5 dX12_isOfGroup_65 ?_
      refine W.lcmp cx.1 cx.2.1 dX12_isOfGroup_66 ?_
      refine lv_if_ne (tgt := 89) cx.1 cx.2.1 dX12_isOfGroup_67 (by decide) (fun c67 => ?_) (fun c67 => ?_)
      · have h := md_in c67 h
        refine lv_iconst (v := 0) cx.1 cx.2.1 dX12_isOfGroup_89 (by decide) ?_
        exact hp_zret cx hw (md_ret h) (by decide) dX12_isOfGroup_90
      · have h := md_ip c67 h
        refine lv_aload_n cx.1 cx.2.1 dX12_isOfGroup_70 rfl (lv_at hl 0 rfl) ?_
        refine md_gR (k := 39) cx hw hin12c (by decide) (by decide) (List.mem_cons_of_mem _ mm_140) dX12_isOfGroup_71 ?_
        refine lv_iload_n cx.1 cx.2.1 dX12_isOfGroup_74 rfl (lv_at hl 2 rfl) ?_
        obtain ⟨v6, e_v6, h⟩ := md_ob h
        refine md_lI (k := 39) hj cx hw (by decide) rfl rfl rfl e_v6 dX12_isOfGroup_75 ?_
        refine lv_aload_n cx.1 cx.2.1 dX12_isOfGroup_76 rfl (lv_at hl 0 rfl) ?_
        refine md_gR (k := 69) cx hw hin12c (by decide) (by decide) (List.mem_cons_of_mem _ mm_132) dX12_isOfGroup_77 ?_
        refine lv_iload_n cx.1 cx.2.1 dX12_isOfGroup_80 rfl (lv_at hl 1 rfl) ?_
        obtain ⟨v7, e_v7, h⟩ := md_ob h
        refine md_lI (k := 69) hj cx hw (by decide) rfl rfl rfl e_v7 dX12_isOfGroup_81 ?_
        refine lv_icmp_ne (tgt := 89) cx.1 cx.2.1 dX12_isOfGroup_82 (by decide) (fun c82 => ?_) (fun c82 => ?_)
        · have h := md_in c82 h
          refine lv_iconst (v := 0) cx.1 cx.2.1 dX12_isOfGroup_89 (by decide) ?_
          exact hp_zret cx hw (md_ret h) (by decide) dX12_isOfGroup_90
        · have h := md_ip c82 h
          refine lv_iconst (v := 1) cx.1 cx.2.1 dX12_isOfGroup_85 (by decide) ?_
          refine lv_goto (tgt := 90) cx.1 cx.2.1 dX12_isOfGroup_86 (by decide) ?_
          exact hp_zret cx hw (md_ret h) (by decide) dX12_isOfGroup_90
  have h := md_in c6_7 h
  by_cases c6_8 : v1 = 8
  · refine lv_lookup (off := 85) (tgt := 91) cx.1 cx.2.1 dX12_isOfGroup_6 (by decide) (by rw [c6_8]; decide) (by decide) ?_
    have h := md_ip c6_8 h
    refine lv_aload_n cx.1 cx.2.1 dX12_isOfGroup_91 rfl (lv_at hl 0 rfl) ?_
    refine md_gR (k := 36) cx hw hin12c (by decide) (by decide) (List.mem_cons_of_mem _ mm_139) dX12_isOfGroup_92 ?_
    refine lv_iload_n cx.1 cx.2.1 dX12_isOfGroup_95 rfl (lv_at hl 2 rfl) ?_
    obtain ⟨v8, e_v8, h⟩ := md_ob h
    refine md_lI (k := 36) hj cx hw (by decide) rfl rfl rfl e_v8 dX12_isOfGroup_96 ?_
    refine lv_iconst (v := 1) cx.1 cx.2.1 dX12_isOfGroup_97 (by decide) ?_
    refine lv_icmp_ne (tgt := 120) cx.1 cx.2.1 dX12_isOfGroup_98 (by decide) (fun c98 => ?_) (fun c98 => ?_)
    · have h := md_in c98 h
      refine lv_iconst (v := 0) cx.1 cx.2.1 dX12_isOfGroup_120 (by decide) ?_
      exact hp_zret cx hw (md_ret h) (by decide) dX12_isOfGroup_121
    · have h := md_ip c98 h
      refine lv_aload_n cx.1 cx.2.1 dX12_isOfGroup_101 rfl (lv_at hl 0 rfl) ?_
      refine md_gR (k := 39) cx hw hin12c (by decide) (by decide) (List.mem_cons_of_mem _ mm_140) dX12_isOfGroup_102 ?_
      refine lv_iload_n cx.1 cx.2.1 dX12_isOfGroup_105 rfl (lv_at hl 2 rfl) ?_
      obtain ⟨v9, e_v9, h⟩ := md_ob h
      refine md_lI (k := 39) hj cx hw (by decide) rfl rfl rfl e_v9 dX12_isOfGroup_106 ?_
      refine lv_aload_n cx.1 cx.2.1 dX12_isOfGroup_107 rfl (lv_at hl 0 rfl) ?_
      refine md_gR (k := 68) cx hw hin12c (by decide) (by decide) (List.mem_cons_of_mem _ mm_131) dX12_isOfGroup_108 ?_
      refine lv_iload_n cx.1 cx.2.1 dX12_isOfGroup_111 rfl (lv_at hl 1 rfl) ?_
      obtain ⟨v10, e_v10, h⟩ := md_ob h
      refine md_lI (k := 68) hj cx hw (by decide) rfl rfl rfl e_v10 dX12_isOfGroup_112 ?_
      refine lv_icmp_ne (tgt := 120) cx.1 cx.2.1 dX12_isOfGroup_113 (by decide) (fun c113 => ?_) (fun c113 => ?_)
      · have h := md_in c113 h
        refine lv_iconst (v := 0) cx.1 cx.2.1 dX12_isOfGroup_120 (by decide) ?_
        exact hp_zret cx hw (md_ret h) (by decide) dX12_isOfGroup_121
      · have h := md_ip c113 h
        refine lv_iconst (v := 1) cx.1 cx.2.1 dX12_isOfGroup_116 (by decide) ?_
        refine lv_goto (tgt := 121) cx.1 cx.2.1 dX12_isOfGroup_117 (by decide) ?_
        exact hp_zret cx hw (md_ret h) (by decide) dX12_isOfGroup_121
  have h := md_in c6_8 h
  by_cases c6_23 : v1 = 23
  · refine lv_lookup (off := 116) (tgt := 122) cx.1 cx.2.1 dX12_isOfGroup_6 (by decide) (by rw [c6_23]; decide) (by decide) ?_
    have h := md_ip c6_23 h
    refine lv_aload_n cx.1 cx.2.1 dX12_isOfGroup_122 rfl (lv_at hl 0 rfl) ?_
    refine md_gR (k := 36) cx hw hin12c (by decide) (by decide) (List.mem_cons_of_mem _ mm_139) dX12_isOfGroup_123 ?_
    refine lv_iload_n cx.1 cx.2.1 dX12_isOfGroup_126 rfl (lv_at hl 2 rfl) ?_
    obtain ⟨v11, e_v11, h⟩ := md_ob h
    refine md_lI (k := 36) hj cx hw (by decide) rfl rfl rfl e_v11 dX12_isOfGroup_127 ?_
    refine lv_iconst (v := 1) cx.1 cx.2.1 dX12_isOfGroup_128 (by decide) ?_
    refine lv_icmp_ne (tgt := 145) cx.1 cx.2.1 dX12_isOfGroup_129 (by decide) (fun c129 => ?_) (fun c129 => ?_)
    · have h := md_in c129 h
      refine lv_iconst (v := 0) cx.1 cx.2.1 dX12_isOfGroup_145 (by decide) ?_
      exact hp_zret cx hw (md_ret h) (by decide) dX12_isOfGroup_146
    · have h := md_ip c129 h
      refine lv_aload_n cx.1 cx.2.1 dX12_isOfGroup_132 rfl (lv_at hl 0 rfl) ?_
      refine md_gR (k := 39) cx hw hin12c (by decide) (by decide) (List.mem_cons_of_mem _ mm_140) dX12_isOfGroup_133 ?_
      refine lv_iload_n cx.1 cx.2.1 dX12_isOfGroup_136 rfl (lv_at hl 2 rfl) ?_
      obtain ⟨v12, e_v12, h⟩ := md_ob h
      refine md_lI (k := 39) hj cx hw (by decide) rfl rfl rfl e_v12 dX12_isOfGroup_137 ?_
      refine lv_if_ne (tgt := 145) cx.1 cx.2.1 dX12_isOfGroup_138 (by decide) (fun c138 => ?_) (fun c138 => ?_)
      · have h := md_in c138 h
        refine lv_iconst (v := 0) cx.1 cx.2.1 dX12_isOfGroup_145 (by decide) ?_
        exact hp_zret cx hw (md_ret h) (by decide) dX12_isOfGroup_146
      · have h := md_ip c138 h
        refine lv_iconst (v := 1) cx.1 cx.2.1 dX12_isOfGroup_141 (by decide) ?_
        refine lv_goto (tgt := 146) cx.1 cx.2.1 dX12_isOfGroup_142 (by decide) ?_
        exact hp_zret cx hw (md_ret h) (by decide) dX12_isOfGroup_146
  have h := md_in c6_23 h
  refine lv_lookup (off := 141) (tgt := 147) cx.1 cx.2.1 dX12_isOfGroup_6 (by decide) ((lv_osw c6_7 (by decide)).trans ((lv_osw c6_8 (by decide)).trans ((lv_osw c6_23 (by decide)).trans rfl))) (by decide) ?_
  refine lv_iconst (v := 0) cx.1 cx.2.1 dX12_isOfGroup_147 (by decide) ?_
  exact hp_zret cx hw (md_ret h) (by decide) dX12_isOfGroup_148
set_option maxHeartbeats 4000000 in
set_option maxRecDepth 100000 in
theorem km_X12_groupNeeds (l : Launch) (D : va_G) (cA : Nat → ClassId) (E : hp_N) (sz : Nat) (ad : Nat → Nat) (hj : md_inj ad) (hE : md_E E) (n : Nat) (σ0 : md_S) (a1 : Int32) (p : (Int32 × md_S)) (h : f_X12_groupNeeds n σ0 a1 = some p) : Met l yX12_groupNeeds (Cond.code yX12_groupNeeds cX12_groupNeeds 3 (some .boolean) :: v_MOD) ({ frames := 1, cells := 0, slots := 0, locals := 22 }) (hp_Pc D vwCl (hp_Tl cA) E sz (md_pic cA ad σ0) [.ref (ad 137), .int a1]) (hp_Qi D vwCl (hp_Tl cA) sz (md_pic cA ad σ0) (fun r u => r = p.1 ∧ u = md_pic cA ad p.2)) 0 0 (hp_A (md_pic cA ad σ0) sz) := by
  refine hp_ofW (cc := cX12_groupNeeds) (maxL := 3) (ret := (some .boolean)) (by decide) rfl (Nat.le_of_ble_eq_true rfl) ?_
  intro pp ee ss mm bb mt cd ls cx hsz hw hl
  have hl : lv_has ls 3 [(0, .ref (ad 137)), (1, .int a1)] := hl
  refine lv_iconst (v := 0) cx.1 cx.2.1 dX12_groupNeeds_0 (by decide) ?_
  refine lv_istore_n (lv' := [(2, .int 0), (0, .ref (ad 137)), (1, .int a1)]) cx.1 cx.2.1 dX12_groupNeeds_1 rfl hl (by decide) rfl (fun ls hl => ?_)
  have L2 : ∀ (j : Nat) (σ : md_S) (l1 : Int32) (l2 : Int32) (q : ((Int32 × md_S) ⊕ (md_S × Int32))) (H : Heap) (locs : List Loc) (ls : Array Slot), f_X12_groupNeeds_L2 n l1 j σ l2 = some q → hp_w D vwCl (hp_Tl cA) E (hp_A (md_pic cA ad σ0) sz) ss H locs (md_pic cA ad σ) → lv_has ls 3 [(0, .ref (ad 137)), (1, .int l1), (2, .int l2)] → (∀ t, q = Sum.inr t → ∀ (H : Heap) (locs : List Loc) (ls : Array Slot), hp_w D vwCl (hp_Tl cA) E (hp_A (md_pic cA ad σ0) sz) ss H locs (md_pic cA ad t.1) → lv_has ls 3 [] → W pp l ee ({ frames := 1, cells := 0, slots := 0, locals := 22 }) ss mm [.ref (ad 137), .int a1].toArray bb mt cd H locs 0 0 (MQ bb (hp_Qi D vwCl (hp_Tl cA) sz (md_pic cA ad σ0) (fun r u => r = p.1 ∧ u = md_pic cA ad p.2)) [.ref (ad 137), .int a1].toArray ss 0 0 (hp_A (md_pic cA ad σ0) sz)) (F0 mm 36 ls [])) → (∀ r, q = Sum.inl r → r = p) → W pp l ee ({ frames := 1, cells := 0, slots := 0, locals := 22 }) ss mm [.ref (ad 137), .int a1].toArray bb mt cd H locs 0 0 (MQ bb (hp_Qi D vwCl (hp_Tl cA) sz (md_pic cA ad σ0) (fun r u => r = p.1 ∧ u = md_pic cA ad p.2)) [.ref (ad 137), .int a1].toArray ss 0 0 (hp_A (md_pic cA ad σ0) sz)) (F0 mm 2 ls []) := by
    intro j
    induction j with
    | zero => intro σ l1 l2 q H locs ls h; exact nomatch h
    | succ j ih =>
      intro σ l1 l2 q H locs ls h hw hl K KR
      have J30 : ∀ (σ : md_S) (l2 : Int32) (H : Heap) (locs : List Loc) (ls : Array Slot), f_X12_groupNeeds_J30 n l1 (f_X12_groupNeeds_L2 n l1 j) σ l2 = some q → hp_w D vwCl (hp_Tl cA) E (hp_A (md_pic cA ad σ0) sz) ss H locs (md_pic cA ad σ) → lv_has ls 3 [(0, .ref (ad 137)), (1, .int l1), (2, .int l2)] → W pp l ee ({ frames := 1, cells := 0, slots := 0, locals := 22 }) ss mm [.ref (ad 137), .int a1].toArray bb mt cd H locs 0 0 (MQ bb (hp_Qi D vwCl (hp_Tl cA) sz (md_pic cA ad σ0) (fun r u => r = p.1 ∧ u = md_pic cA ad p.2)) [.ref (ad 137), .int a1].toArray ss 0 0 (hp_A (md_pic cA ad σ0) sz)) (F0 mm 30 ls []) := by
        intro σ l2 H locs ls h hw hl
        refine lv_iinc (v := (l2 + 1)) (lv' := [(2, .int (l2 + 1)), (0, .ref (ad 137)), (1, .int l1)]) cx.1 cx.2.1 dX12_groupNeeds_30 hl (k := 2) rfl rfl (by decide) rfl (fun ls hl => ?_)
        refine lv_goto (tgt := 2) cx.1 cx.2.1 dX12_groupNeeds_33 (by decide) ?_
        exact ih σ l1 ((l2 + 1)) q _ _ _ h hw (lv_sub hl [1, 2, 0] rfl) K KR
      refine lv_iload_n cx.1 cx.2.1 dX12_groupNeeds_2 rfl (lv_at hl 2 rfl) ?_
      refine lv_aload_n cx.1 cx.2.1 dX12_groupNeeds_3 rfl (lv_at hl 0 rfl) ?_
      refine md_gI (k := 35) cx hw hin12c rfl (by decide) (List.mem_cons_of_mem _ mm_143) dX12_groupNeeds_4 ?_
      refine lv_icmp_ge (tgt := 36) cx.1 cx.2.1 dX12_groupNeeds_7 (by decide) (fun c7 => ?_) (fun c7 => ?_)
      · have h := md_ip c7 h
        exact K _ (Option.some.inj h).symm _ _ _ hw (lv_sub hl [] rfl)
      · have h := md_in c7 h
        refine lv_aload_n cx.1 cx.2.1 dX12_groupNeeds_10 rfl (lv_at hl 0 rfl) ?_
        refine md_gR (k := 47) cx hw hin12c (by decide) (by decide) (List.mem_cons_of_mem _ mm_144) dX12_groupNeeds_11 ?_
        refine lv_iload_n cx.1 cx.2.1 dX12_groupNeeds_14 rfl (lv_at hl 2 rfl) ?_
        obtain ⟨v1, e_v1, h⟩ := md_ob h
        refine md_lZ (k := 47) hj cx hw (by decide) rfl rfl rfl e_v1 dX12_groupNeeds_15 ?_
        refine lv_if_eq (tgt := 30) cx.1 cx.2.1 dX12_groupNeeds_16 (by decide) (fun c16 => ?_) (fun c16 => ?_)
        · have h := md_ip c16 h
          exact J30 σ l2 _ _ _ h hw (lv_sub hl [0, 1, 2] rfl)
        · have h := md_in c16 h
          refine lv_aload_n cx.1 cx.2.1 dX12_groupNeeds_19 rfl (lv_at hl 0 rfl) ?_
          refine lv_iload_n cx.1 cx.2.1 dX12_groupNeeds_20 rfl (lv_at hl 1 rfl) ?_
          refine lv_iload_n cx.1 cx.2.1 dX12_groupNeeds_21 rfl (lv_at hl 2 rfl) ?_
          obtain ⟨p2, e_p2, h⟩ := md_ob h
          refine hp_callVi (As := [.int l1, .int l2]) (rest := []) cx hw (km_X12_isOfGroup l D cA E _ ad hj hE n σ l1 l2 p2 e_p2) (cwV 2 cx.2.2.2.2.2.1 (md_giV mm_145 mm_146 mm_147 mm_5 mm_148) rfl rfl rfl hd_X12_isOfGroup ⟨Nat.le_of_ble_eq_true rfl, Nat.le_of_ble_eq_true rfl⟩) md_at0 rfl rfl hl.1 rfl (Nat.le_of_ble_eq_true rfl) dX12_groupNeeds_22 ⟨Nat.le_refl _, Nat.le_refl _⟩ (fun r u H locs hp hw => ?_)
          obtain ⟨rfl, rfl⟩ := hp
          refine lv_if_eq (tgt := 30) cx.1 cx.2.1 dX12_groupNeeds_25 (by decide) (fun c25 => ?_) (fun c25 => ?_)
          · have h := md_ip c25 h
            exact J30 p2.2 l2 _ _ _ h hw (lv_sub hl [0, 1, 2] rfl)
          · have h := md_in c25 h
            refine lv_iconst (v := 1) cx.1 cx.2.1 dX12_groupNeeds_28 (by decide) ?_
            exact hp_zret cx hw (md_ret (congrArg some (KR _ (Option.some.inj h).symm))) (by decide) dX12_groupNeeds_29
  obtain ⟨q3, e_q3, h⟩ := md_ob h
  refine L2 n σ0 a1 0 q3 _ _ _ e_q3 hw (lv_sub hl [1, 2, 0] rfl) (fun t3 hq3 H locs ls hw hl => ?_) (fun r hr => by subst hr; exact Option.some.inj h)
  subst hq3
  have h := md_inr h
  refine lv_iconst (v := 0) cx.1 cx.2.1 dX12_groupNeeds_36 (by decide) ?_
  exact hp_zret cx hw (md_ret h) (by decide) dX12_groupNeeds_37
set_option maxHeartbeats 4000000 in
set_option maxRecDepth 100000 in
theorem km_X12_nodeNeeds (l : Launch) (D : va_G) (cA : Nat → ClassId) (E : hp_N) (sz : Nat) (ad : Nat → Nat) (hj : md_inj ad) (hE : md_E E) (n : Nat) (σ0 : md_S) (a1 : Int32) (p : (Int32 × md_S)) (h : f_X12_nodeNeeds n σ0 a1 = some p) : Met l yX12_nodeNeeds (Cond.code yX12_nodeNeeds cX12_nodeNeeds 3 (some .boolean) :: v_MOD) ({ frames := 2, cells := 0, slots := 0, locals := 44 }) (hp_Pc D vwCl (hp_Tl cA) E sz (md_pic cA ad σ0) [.ref (ad 137), .int a1]) (hp_Qi D vwCl (hp_Tl cA) sz (md_pic cA ad σ0) (fun r u => r = p.1 ∧ u = md_pic cA ad p.2)) 0 0 (hp_A (md_pic cA ad σ0) sz) := by
  refine hp_ofW (cc := cX12_nodeNeeds) (maxL := 3) (ret := (some .boolean)) (by decide) rfl (Nat.le_of_ble_eq_true rfl) ?_
  intro pp ee ss mm bb mt cd ls cx hsz hw hl
  have hl : lv_has ls 3 [(0, .ref (ad 137)), (1, .int a1)] := hl
  have J66 : ∀ (σ : md_S) (H : Heap) (locs : List Loc) (ls : Array Slot), f_X12_nodeNeeds_J66 n σ = some p → hp_w D vwCl (hp_Tl cA) E (hp_A (md_pic cA ad σ0) sz) ss H locs (md_pic cA ad σ) → lv_has ls 3 [] → W pp l ee ({ frames := 2, cells := 0, slots := 0, locals := 44 }) ss mm [.ref (ad 137), .int a1].toArray bb mt cd H locs 0 0 (MQ bb (hp_Qi D vwCl (hp_Tl cA) sz (md_pic cA ad σ0) (fun r u => r = p.1 ∧ u = md_pic cA ad p.2)) [.ref (ad 137), .int a1].toArray ss 0 0 (hp_A (md_pic cA ad σ0) sz)) (F0 mm 66 ls []) := by
    intro σ H locs ls h hw hl
    refine lv_iconst (v := 0) cx.1 cx.2.1 dX12_nodeNeeds_66 (by decide) ?_
    refine lv_goto (tgt := 75) cx.1 cx.2.1 dX12_nodeNeeds_67 (by decide) ?_
    exact hp_zret cx hw (md_ret h) (by decide) dX12_nodeNeeds_75
  refine lv_aload_n cx.1 cx.2.1 dX12_nodeNeeds_0 rfl (lv_at hl 0 rfl) ?_
  refine md_gR (k := 66) cx hw hin12c (by decide) (by decide) (List.mem_cons_of_mem _ mm_128) dX12_nodeNeeds_1 ?_
  refine lv_iload_n cx.1 cx.2.1 dX12_nodeNeeds_4 rfl (lv_at hl 1 rfl) ?_
  obtain ⟨v1, e_v1, h⟩ := md_ob h
  refine md_lI (k := 66) hj cx hw (by decide) rfl rfl rfl e_v1 dX12_nodeNeeds_5 ?_
  refine lv_istore_n (lv' := [(2, .int v1), (0, .ref (ad 137)), (1, .int a1)]) cx.1 cx.2.1 dX12_nodeNeeds_6 rfl hl (by decide) rfl (fun ls hl => ?_)
  refine lv_iload_n cx.1 cx.2.1 dX12_nodeNeeds_7 rfl (lv_at hl 0 rfl) ?_
  refine lv_bipush (v := 25) cx.1 cx.2.1 dX12_nodeNeeds_8 (by decide) ?_
  refine lv_icmp_eq (tgt := 25) cx.1 cx.2.1 dX12_nodeNeeds_10 (by decide) (fun c10 => ?_) (fun c10 => ?_)
  · have h := md_ip c10 h
    refine lv_iconst (v := 1) cx.1 cx.2.1 dX12_nodeNeeds_25 (by decide) ?_
    exact hp_zret cx hw (md_ret h) (by decide) dX12_nodeNeeds_26
  · have h := md_in c10 h
    refine lv_iload_n cx.1 cx.2.1 dX12_nodeNeeds_13 rfl (lv_at hl 0 rfl) ?_
    refine lv_bipush (v := 26) cx.1 cx.2.1 dX12_nodeNeeds_14 (by decide) ?_
    refine lv_icmp_eq (tgt := 25) cx.1 cx.2.1 dX12_nodeNeeds_16 (by decide) (fun c16 => ?_) (fun c16 => ?_)
    · have h := md_ip c16 h
      refine lv_iconst (v := 1) cx.1 cx.2.1 dX12_nodeNeeds_25 (by decide) ?_
      exact hp_zret cx hw (md_ret h) (by decide) dX12_nodeNeeds_26
    · have h := md_in c16 h
      refine lv_iload_n cx.1 cx.2.1 dX12_nodeNeeds_19 rfl (lv_at hl 0 rfl) ?_
      refine lv_bipush (v := 27) cx.1 cx.2.1 dX12_nodeNeeds_20 (by decide) ?_
      refine lv_icmp_ne (tgt := 27) cx.1 cx.2.1 dX12_nodeNeeds_22 (by decide) (fun c22 => ?_) (fun c22 => ?_)
      · have h := md_in c22 h
        refine lv_iload_n cx.1 cx.2.1 dX12_nodeNeeds_27 rfl (lv_at hl 0 rfl) ?_
        refine lv_bipush (v := 10) cx.1 cx.2.1 dX12_nodeNeeds_28 (by decide) ?_
        refine lv_icmp_ne (tgt := 70) cx.1 cx.2.1 dX12_nodeNeeds_30 (by decide) (fun c30 => ?_) (fun c30 => ?_)
        · have h := md_in c30 h
          refine lv_aload_n cx.1 cx.2.1 dX12_nodeNeeds_70 rfl (lv_at hl 1 rfl) ?_
          refine lv_iload_n cx.1 cx.2.1 dX12_nodeNeeds_71 rfl (lv_at hl 2 rfl) ?_
          obtain ⟨p2, e_p2, h⟩ := md_ob h
          refine hp_callVi (As := [.int a1]) (rest := []) cx hw (km_X12_groupNeeds l D cA E _ ad hj hE n σ0 a1 p2 e_p2) (cwV 1 cx.2.2.2.2.2.1 (md_giV mm_149 mm_150 mm_151 mm_5 mm_152) rfl rfl rfl hd_X12_groupNeeds ⟨Nat.le_of_ble_eq_true rfl, Nat.le_of_ble_eq_true rfl⟩) md_at0 rfl rfl hl.1 rfl (Nat.le_of_ble_eq_true rfl) dX12_nodeNeeds_72 ⟨Nat.le_refl _, Nat.le_refl _⟩ (fun r u H locs hp hw => ?_)
          obtain ⟨rfl, rfl⟩ := hp
          obtain ⟨z3, e_z3, h⟩ := md_ob h
          rw [(md_zbs e_z3).1] at h
          exact hp_zret cx hw (md_ret h) (md_nbn (md_zbs e_z3).2) dX12_nodeNeeds_75
        · have h := md_ip c30 h
          refine lv_aload_n cx.1 cx.2.1 dX12_nodeNeeds_33 rfl (lv_at hl 1 rfl) ?_
          refine md_gR (k := 36) cx hw hin12c (by decide) (by decide) (List.mem_cons_of_mem _ mm_139) dX12_nodeNeeds_34 ?_
          refine lv_aload_n cx.1 cx.2.1 dX12_nodeNeeds_37 rfl (lv_at hl 1 rfl) ?_
          refine md_gR (k := 68) cx hw hin12c (by decide) (by decide) (List.mem_cons_of_mem _ mm_131) dX12_nodeNeeds_38 ?_
          refine lv_iload_n cx.1 cx.2.1 dX12_nodeNeeds_41 rfl (lv_at hl 2 rfl) ?_
          obtain ⟨v4, e_v4, h⟩ := md_ob h
          refine md_lI (k := 68) hj cx hw (by decide) rfl rfl rfl e_v4 dX12_nodeNeeds_42 ?_
          obtain ⟨v5, e_v5, h⟩ := md_ob h
          refine md_lI (k := 36) hj cx hw (by decide) rfl rfl rfl e_v5 dX12_nodeNeeds_43 ?_
          refine lv_iconst (v := 3) cx.1 cx.2.1 dX12_nodeNeeds_44 (by decide) ?_
          refine lv_icmp_ne (tgt := 66) cx.1 cx.2.1 dX12_nodeNeeds_45 (by decide) (fun c45 => ?_) (fun c45 => ?_)
          · have h := md_in c45 h
            exact J66 σ0 _ _ _ h hw (lv_sub hl [] rfl)
          · have h := md_ip c45 h
            refine lv_aload_n cx.1 cx.2.1 dX12_nodeNeeds_48 rfl (lv_at hl 1 rfl) ?_
            refine md_gR (k := 47) cx hw hin12c (by decide) (by decide) (List.mem_cons_of_mem _ mm_144) dX12_nodeNeeds_49 ?_
            refine lv_aload_n cx.1 cx.2.1 dX12_nodeNeeds_52 rfl (lv_at hl 1 rfl) ?_
            refine md_gR (k := 68) cx hw hin12c (by decide) (by decide) (List.mem_cons_of_mem _ mm_131) dX12_nodeNeeds_53 ?_
            refine lv_iload_n cx.1 cx.2.1 dX12_nodeNeeds_56 rfl (lv_at hl 2 rfl) ?_
            obtain ⟨v6, e_v6, h⟩ := md_ob h
            refine md_lI (k := 68) hj cx hw (by decide) rfl rfl rfl e_v6 dX12_nodeNeeds_57 ?_
            obtain ⟨v7, e_v7, h⟩ := md_ob h
            refine md_lZ (k := 47) hj cx hw (by decide) rfl rfl rfl e_v7 dX12_nodeNeeds_58 ?_
            refine lv_if_eq (tgt := 66) cx.1 cx.2.1 dX12_nodeNeeds_59 (by decide) (fun c59 => ?_) (fun c59 => ?_)
            · have h := md_ip c59 h
              exact J66 σ0 _ _ _ h hw (lv_sub hl [] rfl)
            · have h := md_in c59 h
              refine lv_iconst (v := 1) cx.1 cx.2.1 dX12_nodeNeeds_62 (by decide) ?_
              refine lv_goto (tgt := 75) cx.1 cx.2.1 dX12_nodeNeeds_63 (by decide) ?_
              exact hp_zret cx hw (md_ret h) (by decide) dX12_nodeNeeds_75
      · have h := md_ip c22 h
        refine lv_iconst (v := 1) cx.1 cx.2.1 dX12_nodeNeeds_25 (by decide) ?_
        exact hp_zret cx hw (md_ret h) (by decide) dX12_nodeNeeds_26
set_option maxHeartbeats 4000000 in
set_option maxRecDepth 100000 in
theorem km_X12_findNeeds (l : Launch) (D : va_G) (cA : Nat → ClassId) (E : hp_N) (sz : Nat) (ad : Nat → Nat) (hj : md_inj ad) (hE : md_E E) (n : Nat) (σ0 : md_S) (p : (Int32 × md_S)) (h : f_X12_findNeeds n σ0 = some p) : Met l yX12_findNeeds (Cond.code yX12_findNeeds cX12_findNeeds 4 none :: v_MOD) ({ frames := 3, cells := 0, slots := 0, locals := 66 }) (hp_Pc D vwCl (hp_Tl cA) E sz (md_pic cA ad σ0) [.ref (ad 137)]) (hp_Qv D vwCl (hp_Tl cA) sz (md_pic cA ad σ0) (fun u => u = md_pic cA ad p.2)) 0 0 (hp_A (md_pic cA ad σ0) sz) := by
  refine hp_ofW (cc := cX12_findNeeds) (maxL := 4) (ret := none) (by decide) rfl (Nat.le_of_ble_eq_true rfl) ?_
  intro pp ee ss mm bb mt cd ls cx hsz hw hl
  have hl : lv_has ls 4 [(0, .ref (ad 137))] := hl
  refine lv_iconst (v := 0) cx.1 cx.2.1 dX12_findNeeds_0 (by decide) ?_
  refine lv_istore_n (lv' := [(1, .int 0), (0, .ref (ad 137))]) cx.1 cx.2.1 dX12_findNeeds_1 rfl hl (by decide) rfl (fun ls hl => ?_)
  have L2 : ∀ (j : Nat) (σ : md_S) (l1 : Int32) (q : (md_S × Int32)) (H : Heap) (locs : List Loc) (ls : Array Slot), f_X12_findNeeds_L2 n j σ l1 = some q → hp_w D vwCl (hp_Tl cA) E (hp_A (md_pic cA ad σ0) sz) ss H locs (md_pic cA ad σ) → lv_has ls 4 [(0, .ref (ad 137)), (1, .int l1)] → (∀ (H : Heap) (locs : List Loc) (ls : Array Slot), hp_w D vwCl (hp_Tl cA) E (hp_A (md_pic cA ad σ0) sz) ss H locs (md_pic cA ad q.1) → lv_has ls 4 [(0, .ref (ad 137))] → W pp l ee ({ frames := 3, cells := 0, slots := 0, locals := 66 }) ss mm [.ref (ad 137)].toArray bb mt cd H locs 0 0 (MQ bb (hp_Qv D vwCl (hp_Tl cA) sz (md_pic cA ad σ0) (fun u => u = md_pic cA ad p.2)) [.ref (ad 137)].toArray ss 0 0 (hp_A (md_pic cA ad σ0) sz)) (F0 mm 23 ls [])) → W pp l ee ({ frames := 3, cells := 0, slots := 0, locals := 66 }) ss mm [.ref (ad 137)].toArray bb mt cd H locs 0 0 (MQ bb (hp_Qv D vwCl (hp_Tl cA) sz (md_pic cA ad σ0) (fun u => u = md_pic cA ad p.2)) [.ref (ad 137)].toArray ss 0 0 (hp_A (md_pic cA ad σ0) sz)) (F0 mm 2 ls []) := by
    intro j
    induction j with
    | zero => intro σ l1 q H locs ls h; exact nomatch h
    | succ j ih =>
      intro σ l1 q H locs ls h hw hl K
      refine lv_iload_n cx.1 cx.2.1 dX12_findNeeds_2 rfl (lv_at hl 1 rfl) ?_
      refine lv_aload_n cx.1 cx.2.1 dX12_findNeeds_3 rfl (lv_at hl 0 rfl) ?_
      refine md_gI (k := 35) cx hw hin12c rfl (by decide) (List.mem_cons_of_mem _ mm_143) dX12_findNeeds_4 ?_
      refine lv_icmp_ge (tgt := 23) cx.1 cx.2.1 dX12_findNeeds_7 (by decide) (fun c7 => ?_) (fun c7 => ?_)
      · have h := md_ip c7 h
        obtain rfl := Option.some.inj h
        exact K _ _ _ hw (lv_sub hl [0] rfl)
      · have h := md_in c7 h
        refine lv_aload_n cx.1 cx.2.1 dX12_findNeeds_10 rfl (lv_at hl 0 rfl) ?_
        refine md_gR (k := 47) cx hw hin12c (by decide) (by decide) (List.mem_cons_of_mem _ mm_144) dX12_findNeeds_11 ?_
        refine lv_iload_n cx.1 cx.2.1 dX12_findNeeds_14 rfl (lv_at hl 1 rfl) ?_
        refine lv_iconst (v := 0) cx.1 cx.2.1 dX12_findNeeds_15 (by decide) ?_
        obtain ⟨σ1, e_σ1, h⟩ := md_ob h
        refine md_sZ (k := 47) hj cx hw (by decide) rfl rfl rfl e_σ1 dX12_findNeeds_16 (fun H locs hw => ?_)
        refine lv_iinc (v := (l1 + 1)) (lv' := [(1, .int (l1 + 1)), (0, .ref (ad 137))]) cx.1 cx.2.1 dX12_findNeeds_17 hl (k := 1) rfl rfl (by decide) rfl (fun ls hl => ?_)
        refine lv_goto (tgt := 2) cx.1 cx.2.1 dX12_findNeeds_20 (by decide) ?_
        exact ih σ1 ((l1 + 1)) q _ _ _ h hw (lv_sub hl [1, 0] rfl) K
  obtain ⟨q2, e_q2, h⟩ := md_ob h
  refine L2 n σ0 0 q2 _ _ _ e_q2 hw (lv_sub hl [1, 0] rfl) (fun H locs ls hw hl => ?_)
  refine lv_iconst (v := 1) cx.1 cx.2.1 dX12_findNeeds_23 (by decide) ?_
  refine lv_istore_n (lv' := [(1, .int 1), (0, .ref (ad 137))]) cx.1 cx.2.1 dX12_findNeeds_24 rfl hl (by decide) rfl (fun ls hl => ?_)
  have L25 : ∀ (j : Nat) (σ : md_S) (l1 : Int32) (q : (md_S × Int32)) (H : Heap) (locs : List Loc) (ls : Array Slot), f_X12_findNeeds_L25 n j σ l1 = some q → hp_w D vwCl (hp_Tl cA) E (hp_A (md_pic cA ad σ0) sz) ss H locs (md_pic cA ad σ) → lv_has ls 4 [(0, .ref (ad 137)), (1, .int l1)] → (∀ (H : Heap) (locs : List Loc) (ls : Array Slot), hp_w D vwCl (hp_Tl cA) E (hp_A (md_pic cA ad σ0) sz) ss H locs (md_pic cA ad q.1) → lv_has ls 4 [] → W pp l ee ({ frames := 3, cells := 0, slots := 0, locals := 66 }) ss mm [.ref (ad 137)].toArray bb mt cd H locs 0 0 (MQ bb (hp_Qv D vwCl (hp_Tl cA) sz (md_pic cA ad σ0) (fun u => u = md_pic cA ad p.2)) [.ref (ad 137)].toArray ss 0 0 (hp_A (md_pic cA ad σ0) sz)) (F0 mm 172 ls [])) → W pp l ee ({ frames := 3, cells := 0, slots := 0, locals := 66 }) ss mm [.ref (ad 137)].toArray bb mt cd H locs 0 0 (MQ bb (hp_Qv D vwCl (hp_Tl cA) sz (md_pic cA ad σ0) (fun u => u = md_pic cA ad p.2)) [.ref (ad 137)].toArray ss 0 0 (hp_A (md_pic cA ad σ0) sz)) (F0 mm 25 ls []) := by
    intro j
    induction j with
    | zero => intro σ l1 q H locs ls h; exact nomatch h
    | succ j ih =>
      intro σ l1 q H locs ls h hw hl K
      refine lv_iload_n cx.1 cx.2.1 dX12_findNeeds_25 rfl (lv_at hl 1 rfl) ?_
      refine lv_if_eq (tgt := 172) cx.1 cx.2.1 dX12_findNeeds_26 (by decide) (fun c26 => ?_) (fun c26 => ?_)
      · have h := md_ip c26 h
        obtain rfl := Option.some.inj h
        exact K _ _ _ hw (lv_sub hl [] rfl)
      · have h := md_in c26 h
        refine lv_iconst (v := 0) cx.1 cx.2.1 dX12_findNeeds_29 (by decide) ?_
        refine lv_istore_n (lv' := [(1, .int 0), (0, .ref (ad 137))]) cx.1 cx.2.1 dX12_findNeeds_30 rfl hl (by decide) rfl (fun ls hl => ?_)
        refine lv_iconst (v := 0) cx.1 cx.2.1 dX12_findNeeds_31 (by decide) ?_
        refine lv_istore_n (lv' := [(2, .int 0), (1, .int 0), (0, .ref (ad 137))]) cx.1 cx.2.1 dX12_findNeeds_32 rfl hl (by decide) rfl (fun ls hl => ?_)
        have L33 : ∀ (j : Nat) (σ : md_S) (l1 : Int32) (l2 : Int32) (q : (md_S × Int32 × Int32)) (H : Heap) (locs : List Loc) (ls : Array Slot), f_X12_findNeeds_L33 n j σ l1 l2 = some q → hp_w D vwCl (hp_Tl cA) E (hp_A (md_pic cA ad σ0) sz) ss H locs (md_pic cA ad σ) → lv_has ls 4 [(0, .ref (ad 137)), (1, .int l1), (2, .int l2)] → (∀ (H : Heap) (locs : List Loc) (ls : Array Slot), hp_w D vwCl (hp_Tl cA) E (hp_A (md_pic cA ad σ0) sz) ss H locs (md_pic cA ad q.1) → lv_has ls 4 [(0, .ref (ad 137)), (1, .int q.2.1)] → W pp l ee ({ frames := 3, cells := 0, slots := 0, locals := 66 }) ss mm [.ref (ad 137)].toArray bb mt cd H locs 0 0 (MQ bb (hp_Qv D vwCl (hp_Tl cA) sz (md_pic cA ad σ0) (fun u => u = md_pic cA ad p.2)) [.ref (ad 137)].toArray ss 0 0 (hp_A (md_pic cA ad σ0) sz)) (F0 mm 80 ls [])) → W pp l ee ({ frames := 3, cells := 0, slots := 0, locals := 66 }) ss mm [.ref (ad 137)].toArray bb mt cd H locs 0 0 (MQ bb (hp_Qv D vwCl (hp_Tl cA) sz (md_pic cA ad σ0) (fun u => u = md_pic cA ad p.2)) [.ref (ad 137)].toArray ss 0 0 (hp_A (md_pic cA ad σ0) sz)) (F0 mm 33 ls []) := by
          intro j
          induction j with
          | zero => intro σ l1 l2 q H locs ls h; exact nomatch h
          | succ j ih =>
            intro σ l1 l2 q H locs ls h hw hl K
            have J74 : ∀ (σ : md_S) (l1 : Int32) (l2 : Int32) (H : Heap) (locs : List Loc) (ls : Array Slot), f_X12_findNeeds_J74 n (f_X12_findNeeds_L33 n j) σ l1 l2 = some q → hp_w D vwCl (hp_Tl cA) E (hp_A (md_pic cA ad σ0) sz) ss H locs (md_pic cA ad σ) → lv_has ls 4 [(0, .ref (ad 137)), (1, .int l1), (2, .int l2)] → W pp l ee ({ frames := 3, cells := 0, slots := 0, locals := 66 }) ss mm [.ref (ad 137)].toArray bb mt cd H locs 0 0 (MQ bb (hp_Qv D vwCl (hp_Tl cA) sz (md_pic cA ad σ0) (fun u => u = md_pic cA ad p.2)) [.ref (ad 137)].toArray ss 0 0 (hp_A (md_pic cA ad σ0) sz)) (F0 mm 74 ls []) := by
              intro σ l1 l2 H locs ls h hw hl
              refine lv_iinc (v := (l2 + 1)) (lv' := [(2, .int (l2 + 1)), (0, .ref (ad 137)), (1, .int l1)]) cx.1 cx.2.1 dX12_findNeeds_74 hl (k := 2) rfl rfl (by decide) rfl (fun ls hl => ?_)
              refine lv_goto (tgt := 33) cx.1 cx.2.1 dX12_findNeeds_77 (by decide) ?_
              exact ih σ l1 ((l2 + 1)) q _ _ _ h hw (lv_sub hl [1, 2, 0] rfl) K
            refine lv_iload_n cx.1 cx.2.1 dX12_findNeeds_33 rfl (lv_at hl 2 rfl) ?_
            refine lv_aload_n cx.1 cx.2.1 dX12_findNeeds_34 rfl (lv_at hl 0 rfl) ?_
            refine md_gI (k := 65) cx hw hin12c rfl (by decide) (List.mem_cons_of_mem _ mm_127) dX12_findNeeds_35 ?_
            refine lv_icmp_ge (tgt := 80) cx.1 cx.2.1 dX12_findNeeds_38 (by decide) (fun c38 => ?_) (fun c38 => ?_)
            · have h := md_ip c38 h
              obtain rfl := Option.some.inj h
              exact K _ _ _ hw (lv_sub hl [0, 1] rfl)
            · have h := md_in c38 h
              refine lv_aload_n cx.1 cx.2.1 dX12_findNeeds_41 rfl (lv_at hl 0 rfl) ?_
              refine md_gR (k := 67) cx hw hin12c (by decide) (by decide) (List.mem_cons_of_mem _ mm_129) dX12_findNeeds_42 ?_
              refine lv_iload_n cx.1 cx.2.1 dX12_findNeeds_45 rfl (lv_at hl 2 rfl) ?_
              obtain ⟨v3, e_v3, h⟩ := md_ob h
              refine md_lI (k := 67) hj cx hw (by decide) rfl rfl rfl e_v3 dX12_findNeeds_46 ?_
              refine lv_istore_n (lv' := [(3, .int v3), (0, .ref (ad 137)), (1, .int l1), (2, .int l2)]) cx.1 cx.2.1 dX12_findNeeds_47 rfl hl (by decide) rfl (fun ls hl => ?_)
              refine lv_aload_n cx.1 cx.2.1 dX12_findNeeds_48 rfl (lv_at hl 1 rfl) ?_
              refine md_gR (k := 47) cx hw hin12c (by decide) (by decide) (List.mem_cons_of_mem _ mm_144) dX12_findNeeds_49 ?_
              refine lv_iload_n cx.1 cx.2.1 dX12_findNeeds_52 rfl (lv_at hl 0 rfl) ?_
              obtain ⟨v4, e_v4, h⟩ := md_ob h
              refine md_lZ (k := 47) hj cx hw (by decide) rfl rfl rfl e_v4 dX12_findNeeds_53 ?_
              refine lv_if_ne (tgt := 74) cx.1 cx.2.1 dX12_findNeeds_54 (by decide) (fun c54 => ?_) (fun c54 => ?_)
              · have h := md_in c54 h
                exact J74 σ l1 l2 _ _ _ h hw (lv_sub hl [1, 2, 3] rfl)
              · have h := md_ip c54 h
                refine lv_aload_n cx.1 cx.2.1 dX12_findNeeds_57 rfl (lv_at hl 1 rfl) ?_
                refine lv_iload_n cx.1 cx.2.1 dX12_findNeeds_58 rfl (lv_at hl 3 rfl) ?_
                obtain ⟨p5, e_p5, h⟩ := md_ob h
                refine hp_callVi (As := [.int l2]) (rest := []) cx hw (km_X12_nodeNeeds l D cA E _ ad hj hE n σ l2 p5 e_p5) (cwV 1 cx.2.2.2.2.2.1 (md_giV mm_153 mm_154 mm_155 mm_5 mm_156) rfl rfl rfl hd_X12_nodeNeeds ⟨Nat.le_of_ble_eq_true rfl, Nat.le_of_ble_eq_true rfl⟩) md_at0 rfl rfl hl.1 rfl (Nat.le_of_ble_eq_true rfl) dX12_findNeeds_59 ⟨Nat.le_refl _, Nat.le_refl _⟩ (fun r u H locs hp hw => ?_)
                obtain ⟨rfl, rfl⟩ := hp
                refine lv_if_eq (tgt := 74) cx.1 cx.2.1 dX12_findNeeds_62 (by decide) (fun c62 => ?_) (fun c62 => ?_)
                · have h := md_ip c62 h
                  exact J74 p5.2 l1 l2 _ _ _ h hw (lv_sub hl [1, 2, 3] rfl)
                · have h := md_in c62 h
                  refine lv_aload_n cx.1 cx.2.1 dX12_findNeeds_65 rfl (lv_at hl 1 rfl) ?_
                  refine md_gR (k := 47) cx hw hin12c (by decide) (by decide) (List.mem_cons_of_mem _ mm_144) dX12_findNeeds_66 ?_
                  refine lv_iload_n cx.1 cx.2.1 dX12_findNeeds_69 rfl (lv_at hl 0 rfl) ?_
                  refine lv_iconst (v := 1) cx.1 cx.2.1 dX12_findNeeds_70 (by decide) ?_
                  obtain ⟨σ6, e_σ6, h⟩ := md_ob h
                  refine md_sZ (k := 47) hj cx hw (by decide) rfl rfl rfl e_σ6 dX12_findNeeds_71 (fun H locs hw => ?_)
                  refine lv_iconst (v := 1) cx.1 cx.2.1 dX12_findNeeds_72 (by decide) ?_
                  refine lv_istore_n (lv' := [(1, .int 1), (3, .int v3), (0, .ref (ad 137)), (2, .int l2)]) cx.1 cx.2.1 dX12_findNeeds_73 rfl hl (by decide) rfl (fun ls hl => ?_)
                  exact J74 σ6 1 l2 _ _ _ h hw (lv_sub hl [2, 0, 3] rfl)
        obtain ⟨q7, e_q7, h⟩ := md_ob h
        refine L33 n σ 0 0 q7 _ _ _ e_q7 hw (lv_sub hl [2, 1, 0] rfl) (fun H locs ls hw hl => ?_)
        refine lv_iconst (v := 0) cx.1 cx.2.1 dX12_findNeeds_80 (by decide) ?_
        refine lv_istore_n (lv' := [(2, .int 0), (0, .ref (ad 137)), (1, .int q7.2.1)]) cx.1 cx.2.1 dX12_findNeeds_81 rfl hl (by decide) rfl (fun ls hl => ?_)
        have L82 : ∀ (j : Nat) (σ : md_S) (l1 : Int32) (l2 : Int32) (q : (md_S × Int32 × Int32)) (H : Heap) (locs : List Loc) (ls : Array Slot), f_X12_findNeeds_L82 n j σ l1 l2 = some q → hp_w D vwCl (hp_Tl cA) E (hp_A (md_pic cA ad σ0) sz) ss H locs (md_pic cA ad σ) → lv_has ls 4 [(0, .ref (ad 137)), (1, .int l1), (2, .int l2)] → (∀ (H : Heap) (locs : List Loc) (ls : Array Slot), hp_w D vwCl (hp_Tl cA) E (hp_A (md_pic cA ad σ0) sz) ss H locs (md_pic cA ad q.1) → lv_has ls 4 [(0, .ref (ad 137)), (1, .int q.2.1)] → W pp l ee ({ frames := 3, cells := 0, slots := 0, locals := 66 }) ss mm [.ref (ad 137)].toArray bb mt cd H locs 0 0 (MQ bb (hp_Qv D vwCl (hp_Tl cA) sz (md_pic cA ad σ0) (fun u => u = md_pic cA ad p.2)) [.ref (ad 137)].toArray ss 0 0 (hp_A (md_pic cA ad σ0) sz)) (F0 mm 169 ls [])) → W pp l ee ({ frames := 3, cells := 0, slots := 0, locals := 66 }) ss mm [.ref (ad 137)].toArray bb mt cd H locs 0 0 (MQ bb (hp_Qv D vwCl (hp_Tl cA) sz (md_pic cA ad σ0) (fun u => u = md_pic cA ad p.2)) [.ref (ad 137)].toArray ss 0 0 (hp_A (md_pic cA ad σ0) sz)) (F0 mm 82 ls []) := by
          intro j
          induction j with
          | zero => intro σ l1 l2 q H locs ls h; exact nomatch h
          | succ j ih =>
            intro σ l1 l2 q H locs ls h hw hl K
            refine lv_iload_n cx.1 cx.2.1 dX12_findNeeds_82 rfl (lv_at hl 2 rfl) ?_
            refine lv_aload_n cx.1 cx.2.1 dX12_findNeeds_83 rfl (lv_at hl 0 rfl) ?_
            refine md_gI (k := 35) cx hw hin12c rfl (by decide) (List.mem_cons_of_mem _ mm_143) dX12_findNeeds_84 ?_
            refine lv_icmp_ge (tgt := 169) cx.1 cx.2.1 dX12_findNeeds_87 (by decide) (fun c87 => ?_) (fun c87 => ?_)
            · have h := md_ip c87 h
              obtain rfl := Option.some.inj h
              exact K _ _ _ hw (lv_sub hl [0, 1] rfl)
            · have h := md_in c87 h
              refine lv_iconst (v := 0) cx.1 cx.2.1 dX12_findNeeds_90 (by decide) ?_
              refine lv_istore_n (lv' := [(3, .int 0), (0, .ref (ad 137)), (1, .int l1), (2, .int l2)]) cx.1 cx.2.1 dX12_findNeeds_91 rfl hl (by decide) rfl (fun ls hl => ?_)
              have L92 : ∀ (j : Nat) (σ : md_S) (l2 : Int32) (l1 : Int32) (l3 : Int32) (q : (md_S × Int32 × Int32)) (H : Heap) (locs : List Loc) (ls : Array Slot), f_X12_findNeeds_L92 n l2 j σ l1 l3 = some q → hp_w D vwCl (hp_Tl cA) E (hp_A (md_pic cA ad σ0) sz) ss H locs (md_pic cA ad σ) → lv_has ls 4 [(0, .ref (ad 137)), (1, .int l1), (2, .int l2), (3, .int l3)] → (∀ (H : Heap) (locs : List Loc) (ls : Array Slot), hp_w D vwCl (hp_Tl cA) E (hp_A (md_pic cA ad σ0) sz) ss H locs (md_pic cA ad q.1) → lv_has ls 4 [(0, .ref (ad 137)), (1, .int q.2.1), (2, .int l2)] → W pp l ee ({ frames := 3, cells := 0, slots := 0, locals := 66 }) ss mm [.ref (ad 137)].toArray bb mt cd H locs 0 0 (MQ bb (hp_Qv D vwCl (hp_Tl cA) sz (md_pic cA ad σ0) (fun u => u = md_pic cA ad p.2)) [.ref (ad 137)].toArray ss 0 0 (hp_A (md_pic cA ad σ0) sz)) (F0 mm 163 ls [])) → W pp l ee ({ frames := 3, cells := 0, slots := 0, locals := 66 }) ss mm [.ref (ad 137)].toArray bb mt cd H locs 0 0 (MQ bb (hp_Qv D vwCl (hp_Tl cA) sz (md_pic cA ad σ0) (fun u => u = md_pic cA ad p.2)) [.ref (ad 137)].toArray ss 0 0 (hp_A (md_pic cA ad σ0) sz)) (F0 mm 92 ls []) := by
                intro j
                induction j with
                | zero => intro σ l2 l1 l3 q H locs ls h; exact nomatch h
                | succ j ih =>
                  intro σ l2 l1 l3 q H locs ls h hw hl K
                  have J156 : ∀ (σ : md_S) (l3 : Int32) (t0 : Int32) (H : Heap) (locs : List Loc) (ls : Array Slot), f_X12_findNeeds_J156 n l2 (f_X12_findNeeds_L92 n l2 j) σ l3 t0 = some q → hp_w D vwCl (hp_Tl cA) E (hp_A (md_pic cA ad σ0) sz) ss H locs (md_pic cA ad σ) → lv_has ls 4 [(0, .ref (ad 137)), (2, .int l2), (3, .int l3)] → W pp l ee ({ frames := 3, cells := 0, slots := 0, locals := 66 }) ss mm [.ref (ad 137)].toArray bb mt cd H locs 0 0 (MQ bb (hp_Qv D vwCl (hp_Tl cA) sz (md_pic cA ad σ0) (fun u => u = md_pic cA ad p.2)) [.ref (ad 137)].toArray ss 0 0 (hp_A (md_pic cA ad σ0) sz)) (F0 mm 156 ls [.int t0]) := by
                    intro σ l3 t0 H locs ls h hw hl
                    refine lv_istore_n (lv' := [(1, .int t0), (0, .ref (ad 137)), (2, .int l2), (3, .int l3)]) cx.1 cx.2.1 dX12_findNeeds_156 rfl hl (by decide) rfl (fun ls hl => ?_)
                    refine lv_iinc (v := (l3 + 1)) (lv' := [(3, .int (l3 + 1)), (1, .int t0), (0, .ref (ad 137)), (2, .int l2)]) cx.1 cx.2.1 dX12_findNeeds_157 hl (k := 3) rfl rfl (by decide) rfl (fun ls hl => ?_)
                    refine lv_goto (tgt := 92) cx.1 cx.2.1 dX12_findNeeds_160 (by decide) ?_
                    exact ih σ l2 t0 ((l3 + 1)) q _ _ _ h hw (lv_sub hl [2, 1, 3, 0] rfl) K
                  have J151 : ∀ (σ : md_S) (l3 : Int32) (H : Heap) (locs : List Loc) (ls : Array Slot), f_X12_findNeeds_J151 n l2 (f_X12_findNeeds_L92 n l2 j) σ l3 = some q → hp_w D vwCl (hp_Tl cA) E (hp_A (md_pic cA ad σ0) sz) ss H locs (md_pic cA ad σ) → lv_has ls 4 [(0, .ref (ad 137)), (2, .int l2), (3, .int l3)] → W pp l ee ({ frames := 3, cells := 0, slots := 0, locals := 66 }) ss mm [.ref (ad 137)].toArray bb mt cd H locs 0 0 (MQ bb (hp_Qv D vwCl (hp_Tl cA) sz (md_pic cA ad σ0) (fun u => u = md_pic cA ad p.2)) [.ref (ad 137)].toArray ss 0 0 (hp_A (md_pic cA ad σ0) sz)) (F0 mm 151 ls []) := by
                    intro σ l3 H locs ls h hw hl
                    refine lv_iconst (v := 1) cx.1 cx.2.1 dX12_findNeeds_151 (by decide) ?_
                    refine lv_goto (tgt := 156) cx.1 cx.2.1 dX12_findNeeds_152 (by decide) ?_
                    exact J156 σ l3 1 _ _ _ h hw (lv_sub hl [0, 1, 2] rfl)
                  have J137 : ∀ (σ : md_S) (l1 : Int32) (l3 : Int32) (t0 : Int32) (t1 : Int32) (H : Heap) (locs : List Loc) (ls : Array Slot), f_X12_findNeeds_J137 n l2 (f_X12_findNeeds_L92 n l2 j) σ l1 l3 t0 t1 = some q → hp_w D vwCl (hp_Tl cA) E (hp_A (md_pic cA ad σ0) sz) ss H locs (md_pic cA ad σ) → lv_has ls 4 [(0, .ref (ad 137)), (1, .int l1), (2, .int l2), (3, .int l3)] → W pp l ee ({ frames := 3, cells := 0, slots := 0, locals := 66 }) ss mm [.ref (ad 137)].toArray bb mt cd H locs 0 0 (MQ bb (hp_Qv D vwCl (hp_Tl cA) sz (md_pic cA ad σ0) (fun u => u = md_pic cA ad p.2)) [.ref (ad 137)].toArray ss 0 0 (hp_A (md_pic cA ad σ0) sz)) (F0 mm 137 ls [.int t0, .int t1, .ref (ad 47)]) := by
                    intro σ l1 l3 t0 t1 H locs ls h hw hl
                    obtain ⟨σ8, e_σ8, h⟩ := md_ob h
                    refine md_sZ (k := 47) hj cx hw (by decide) rfl rfl rfl e_σ8 dX12_findNeeds_137 (fun H locs hw => ?_)
                    refine lv_iload_n cx.1 cx.2.1 dX12_findNeeds_138 rfl (lv_at hl 1 rfl) ?_
                    refine lv_if_ne (tgt := 151) cx.1 cx.2.1 dX12_findNeeds_139 (by decide) (fun c139 => ?_) (fun c139 => ?_)
                    · have h := md_in c139 h
                      exact J151 σ8 l3 _ _ _ h hw (lv_sub hl [0, 2, 3] rfl)
                    · have h := md_ip c139 h
                      refine lv_aload_n cx.1 cx.2.1 dX12_findNeeds_142 rfl (lv_at hl 0 rfl) ?_
                      refine md_gR (k := 47) cx hw hin12c (by decide) (by decide) (List.mem_cons_of_mem _ mm_144) dX12_findNeeds_143 ?_
                      refine lv_iload_n cx.1 cx.2.1 dX12_findNeeds_146 rfl (lv_at hl 2 rfl) ?_
                      obtain ⟨v9, e_v9, h⟩ := md_ob h
                      refine md_lZ (k := 47) hj cx hw (by decide) rfl rfl rfl e_v9 dX12_findNeeds_147 ?_
                      refine lv_if_eq (tgt := 155) cx.1 cx.2.1 dX12_findNeeds_148 (by decide) (fun c148 => ?_) (fun c148 => ?_)
                      · have h := md_ip c148 h
                        refine lv_iconst (v := 0) cx.1 cx.2.1 dX12_findNeeds_155 (by decide) ?_
                        exact J156 σ8 l3 0 _ _ _ h hw (lv_sub hl [0, 2, 3] rfl)
                      · have h := md_in c148 h
                        exact J151 σ8 l3 _ _ _ h hw (lv_sub hl [0, 2, 3] rfl)
                  have J136 : ∀ (σ : md_S) (l1 : Int32) (l3 : Int32) (t0 : Int32) (H : Heap) (locs : List Loc) (ls : Array Slot), f_X12_findNeeds_J136 n l2 (f_X12_findNeeds_L92 n l2 j) σ l1 l3 t0 = some q → hp_w D vwCl (hp_Tl cA) E (hp_A (md_pic cA ad σ0) sz) ss H locs (md_pic cA ad σ) → lv_has ls 4 [(0, .ref (ad 137)), (1, .int l1), (2, .int l2), (3, .int l3)] → W pp l ee ({ frames := 3, cells := 0, slots := 0, locals := 66 }) ss mm [.ref (ad 137)].toArray bb mt cd H locs 0 0 (MQ bb (hp_Qv D vwCl (hp_Tl cA) sz (md_pic cA ad σ0) (fun u => u = md_pic cA ad p.2)) [.ref (ad 137)].toArray ss 0 0 (hp_A (md_pic cA ad σ0) sz)) (F0 mm 136 ls [.int t0, .ref (ad 47)]) := by
                    intro σ l1 l3 t0 H locs ls h hw hl
                    refine lv_iconst (v := 0) cx.1 cx.2.1 dX12_findNeeds_136 (by decide) ?_
                    exact J137 σ l1 l3 0 t0 _ _ _ h hw (lv_sub hl [0, 1, 2, 3] rfl)
                  refine lv_iload_n cx.1 cx.2.1 dX12_findNeeds_92 rfl (lv_at hl 3 rfl) ?_
                  refine lv_aload_n cx.1 cx.2.1 dX12_findNeeds_93 rfl (lv_at hl 0 rfl) ?_
                  refine md_gI (k := 35) cx hw hin12c rfl (by decide) (List.mem_cons_of_mem _ mm_143) dX12_findNeeds_94 ?_
                  refine lv_icmp_ge (tgt := 163) cx.1 cx.2.1 dX12_findNeeds_97 (by decide) (fun c97 => ?_) (fun c97 => ?_)
                  · have h := md_ip c97 h
                    obtain rfl := Option.some.inj h
                    exact K _ _ _ hw (lv_sub hl [0, 1, 2] rfl)
                  · have h := md_in c97 h
                    refine lv_aload_n cx.1 cx.2.1 dX12_findNeeds_100 rfl (lv_at hl 0 rfl) ?_
                    refine md_gR (k := 47) cx hw hin12c (by decide) (by decide) (List.mem_cons_of_mem _ mm_144) dX12_findNeeds_101 ?_
                    refine lv_iload_n cx.1 cx.2.1 dX12_findNeeds_104 rfl (lv_at hl 2 rfl) ?_
                    obtain ⟨v10, e_v10, h⟩ := md_ob h
                    refine md_lZ (k := 47) hj cx hw (by decide) rfl rfl rfl e_v10 dX12_findNeeds_105 ?_
                    refine lv_if_ne (tgt := 163) cx.1 cx.2.1 dX12_findNeeds_106 (by decide) (fun c106 => ?_) (fun c106 => ?_)
                    · have h := md_in c106 h
                      obtain rfl := Option.some.inj h
                      exact K _ _ _ hw (lv_sub hl [0, 1, 2] rfl)
                    · have h := md_ip c106 h
                      refine lv_aload_n cx.1 cx.2.1 dX12_findNeeds_109 rfl (lv_at hl 0 rfl) ?_
                      refine md_gR (k := 47) cx hw hin12c (by decide) (by decide) (List.mem_cons_of_mem _ mm_144) dX12_findNeeds_110 ?_
                      refine lv_iload_n cx.1 cx.2.1 dX12_findNeeds_113 rfl (lv_at hl 2 rfl) ?_
                      refine lv_aload_n cx.1 cx.2.1 dX12_findNeeds_114 rfl (lv_at hl 0 rfl) ?_
                      refine md_gR (k := 47) cx hw hin12c (by decide) (by decide) (List.mem_cons_of_mem _ mm_144) dX12_findNeeds_115 ?_
                      refine lv_iload_n cx.1 cx.2.1 dX12_findNeeds_118 rfl (lv_at hl 3 rfl) ?_
                      obtain ⟨v11, e_v11, h⟩ := md_ob h
                      refine md_lZ (k := 47) hj cx hw (by decide) rfl rfl rfl e_v11 dX12_findNeeds_119 ?_
                      refine lv_if_eq (tgt := 136) cx.1 cx.2.1 dX12_findNeeds_120 (by decide) (fun c120 => ?_) (fun c120 => ?_)
                      · have h := md_ip c120 h
                        exact J136 σ l1 l3 l2 _ _ _ h hw (lv_sub hl [0, 1, 2, 3] rfl)
                      · have h := md_in c120 h
                        refine lv_aload_n cx.1 cx.2.1 dX12_findNeeds_123 rfl (lv_at hl 0 rfl) ?_
                        refine lv_iload_n cx.1 cx.2.1 dX12_findNeeds_124 rfl (lv_at hl 2 rfl) ?_
                        refine lv_iload_n cx.1 cx.2.1 dX12_findNeeds_125 rfl (lv_at hl 3 rfl) ?_
                        obtain ⟨p12, e_p12, h⟩ := md_ob h
                        refine hp_callVi (As := [.int l2, .int l3]) (rest := [.int l2, .ref (ad 47)]) cx hw (km_X12_areOfOne l D cA E _ ad hj hE n σ l2 l3 p12 e_p12) (cwV 2 cx.2.2.2.2.2.1 (md_giV mm_157 mm_158 mm_159 mm_5 mm_160) rfl rfl rfl hd_X12_areOfOne ⟨Nat.le_of_ble_eq_true rfl, Nat.le_of_ble_eq_true rfl⟩) md_at0 rfl rfl hl.1 rfl (Nat.le_of_ble_eq_true rfl) dX12_findNeeds_126 ⟨Nat.le_refl _, Nat.le_refl _⟩ (fun r u H locs hp hw => ?_)
                        obtain ⟨rfl, rfl⟩ := hp
                        refine lv_if_eq (tgt := 136) cx.1 cx.2.1 dX12_findNeeds_129 (by decide) (fun c129 => ?_) (fun c129 => ?_)
                        · have h := md_ip c129 h
                          exact J136 p12.2 l1 l3 l2 _ _ _ h hw (lv_sub hl [0, 1, 2, 3] rfl)
                        · have h := md_in c129 h
                          refine lv_iconst (v := 1) cx.1 cx.2.1 dX12_findNeeds_132 (by decide) ?_
                          refine lv_goto (tgt := 137) cx.1 cx.2.1 dX12_findNeeds_133 (by decide) ?_
                          exact J137 p12.2 l1 l3 1 l2 _ _ _ h hw (lv_sub hl [0, 1, 2, 3] rfl)
              obtain ⟨q13, e_q13, h⟩ := md_ob h
              refine L92 n σ l2 l1 0 q13 _ _ _ e_q13 hw (lv_sub hl [1, 2, 3, 0] rfl) (fun H locs ls hw hl => ?_)
              refine lv_iinc (v := (l2 + 1)) (lv' := [(2, .int (l2 + 1)), (0, .ref (ad 137)), (1, .int q13.2.1)]) cx.1 cx.2.1 dX12_findNeeds_163 hl (k := 2) rfl rfl (by decide) rfl (fun ls hl => ?_)
              refine lv_goto (tgt := 82) cx.1 cx.2.1 dX12_findNeeds_166 (by decide) ?_
              exact ih q13.1 (q13.2.1) ((l2 + 1)) q _ _ _ h hw (lv_sub hl [1, 2, 0] rfl) K
        obtain ⟨q14, e_q14, h⟩ := md_ob h
        refine L82 n q7.1 (q7.2.1) 0 q14 _ _ _ e_q14 hw (lv_sub hl [1, 2, 0] rfl) (fun H locs ls hw hl => ?_)
        refine lv_goto (tgt := 25) cx.1 cx.2.1 dX12_findNeeds_169 (by decide) ?_
        exact ih q14.1 (q14.2.1) q _ _ _ h hw (lv_sub hl [0, 1] rfl) K
  obtain ⟨q15, e_q15, h⟩ := md_ob h
  refine L25 n q2.1 1 q15 _ _ _ e_q15 hw (lv_sub hl [1, 0] rfl) (fun H locs ls hw hl => ?_)
  exact hp_vret cx hw (md_retv h) dX12_findNeeds_172
