set_option maxHeartbeats 4000000 in
set_option maxRecDepth 100000 in
theorem kc_X1_record (l : Launch) (D : va_G) (cA : Nat → ClassId) (E : hp_N) (sz : Nat) (ad : Nat → Nat → Nat) (ca0 : Nat → Nat) (hj : cd_inj ad ca0) (oq sgq sgv : Nat) (hE : cd_E E oq sgq sgv) (n : Nat) (σ0 : cd_S) (b0 : cd_B) (a1 : Nat) (a2 : Int32) (a3 : Int32) (a4 : Int32) (a5 : Int32) (hb_a1 : a1 < 8) (p : (Int32 × cd_S × cd_B)) (h : f_X1_record n σ0 b0 a1 a2 a3 a4 a5 = some p) : (p.2.2.1 ≤ b0.1 ∧ p.2.2.2 ≤ b0.2) ∧ Met l yX1_record (Cond.code yX1_record cX1_record 6 none :: v_CLS) ({ frames := 4, cells := b0.1 - p.2.2.1, slots := b0.2 - p.2.2.2, locals := 111 }) (hp_Pc D vwCl (hp_Tl cA) E sz (cd_pic cA ad ca0 σ0) [.ref (ad 1 0), .ref (ad 7 a1), .int a2, .int a3, .int a4, .int a5]) (hp_Qv D vwCl (hp_Tl cA) sz (cd_pic cA ad ca0 σ0) (fun u => ∃ ca1, cd_inj ad ca1 ∧ u = cd_pic cA ad ca1 p.2.1)) (b0.1 - p.2.2.1) (b0.2 - p.2.2.2) (hp_A (cd_pic cA ad ca0 σ0) sz) := by
  obtain ⟨hm0, hn0, h⟩ := cd_cks h
  have hM0 : p.2.2.1 ≤ b0.1 ∧ p.2.2.2 ≤ b0.2 := ⟨hm0, hn0⟩
  refine ⟨hM0, ?_⟩
  refine hp_ofW (cc := cX1_record) (maxL := 6) (ret := none) (by decide) rfl (Nat.le_of_ble_eq_true rfl) ?_
  intro pp ee ss mm bb mt cd ls cx hsz hw hl
  have hl : lv_has ls 6 [(0, .ref (ad 1 0)), (1, .ref (ad 7 a1)), (2, .int a2), (3, .int a3), (4, .int a4), (5, .int a5)] := hl
  refine W.widen (k := b0.1 - b0.1) (n := b0.2 - b0.2) (Nat.zero_le _) (Nat.zero_le _) ?_
  have J60 : ∀ (ca : Nat → Nat) (hj : cd_inj ad ca) (σ : cd_S) (b : cd_B) (H : Heap) (locs : List Loc) (ls : Array Slot), b.1 ≤ b0.1 → b.2 ≤ b0.2 → p.2.2.1 ≤ b.1 → p.2.2.2 ≤ b.2 → f_X1_record_J60 n a1 σ b = some p → hp_w D vwCl (hp_Tl cA) E (hp_A (cd_pic cA ad ca0 σ0) sz) ss H locs (cd_pic cA ad ca σ) → lv_has ls 6 [(0, .ref (ad 1 0))] → W pp l ee ({ frames := 4, cells := b0.1 - p.2.2.1, slots := b0.2 - p.2.2.2, locals := 111 }) ss mm [.ref (ad 1 0), .ref (ad 7 a1), .int a2, .int a3, .int a4, .int a5].toArray bb mt cd H locs (b0.1 - b.1) (b0.2 - b.2) (MQ bb (hp_Qv D vwCl (hp_Tl cA) sz (cd_pic cA ad ca0 σ0) (fun u => ∃ ca1, cd_inj ad ca1 ∧ u = cd_pic cA ad ca1 p.2.1)) [.ref (ad 1 0), .ref (ad 7 a1), .int a2, .int a3, .int a4, .int a5].toArray ss (b0.1 - p.2.2.1) (b0.2 - p.2.2.2) (hp_A (cd_pic cA ad ca0 σ0) sz)) (F0 mm 60 ls []) := by
    intro ca hj σ b H locs ls hb1 hb2 hf1 hf2 h hw hl
    refine lv_aload_n cx.1 cx.2.1 dX1_record_60 rfl (lv_at hl 0 rfl) ?_
    refine lv_dup cx.1 cx.2.1 dX1_record_61 rfl ?_
    refine cd_gI (o := 1) (k := 11) (f := 43) hj cx hw hic1 rfl ⟨by decide, rfl, by decide, rfl⟩ rfl (by decide) (List.mem_cons_of_mem _ cm_197) dX1_record_62 ?_
    refine lv_iconst (v := 1) cx.1 cx.2.1 dX1_record_65 (by decide) ?_
    refine lv_iadd cx.1 cx.2.1 dX1_record_66 ?_
    obtain ⟨σ1, e_σ1, h⟩ := md_ob h
    refine cd_pI (o := 1) (k := 11) (f := 43) hj cx hw hic1 rfl ⟨by decide, rfl, by decide, rfl⟩ tyX1_ok nmX1 rfl (by decide) rfl (List.mem_cons_of_mem _ cm_197) rfl e_σ1 dX1_record_67 (fun H locs hw => ?_)
    exact hp_vret cx hw ((cd_retb hj h).2) dX1_record_70 (cd_le1 h) (cd_le2 h)
  refine lv_aload_n cx.1 cx.2.1 dX1_record_0 rfl (lv_at hl 0 rfl) ?_
  refine cd_gI (o := 1) (k := 11) (f := 43) hj cx hw hic1 rfl ⟨by decide, rfl, by decide, rfl⟩ rfl (by decide) (List.mem_cons_of_mem _ cm_197) dX1_record_1 ?_
  refine lv_sipush (v := 200) cx.1 cx.2.1 dX1_record_4 (by decide) ?_
  refine lv_icmp_ge (tgt := 60) cx.1 cx.2.1 dX1_record_7 (by decide) (fun c7 => ?_) (fun c7 => ?_)
  · have h := md_ip c7 h
    exact J60 _ hj σ0 b0 _ _ _ (by omega) (by omega) (by omega) (by omega) h hw (lv_sub hl [0] rfl)
  · have h := md_in c7 h
    refine lv_aload_n cx.1 cx.2.1 dX1_record_10 rfl (lv_at hl 0 rfl) ?_
    refine cd_gO (o2 := 6) (e2 := 8) (o := 1) (k := 7) (f := 39) hj cx hw hic1 rfl ⟨by decide, rfl, by decide, rfl⟩ rfl (by decide) ⟨rfl, rfl⟩ (List.mem_cons_of_mem _ cm_196) dX1_record_11 ?_
    refine lv_aload_n cx.1 cx.2.1 dX1_record_14 rfl (lv_at hl 1 rfl) ?_
    refine cd_gI (o := 7) (k := 7) (f := 231) hj cx hw hic7 rfl ⟨by decide, rfl, by decide, rfl⟩ rfl (show _ < 8 by omega) (List.mem_cons_of_mem _ cm_234) dX1_record_15 ?_
    refine lv_i2l (v := ((cI σ0 231 a1).toInt64)) cx.1 cx.2.1 dX1_record_18 rfl ?_
    obtain ⟨p2, e_p2, h⟩ := md_ob h
    obtain ⟨hm3, hn3, h⟩ := cd_cks h
    have hM3 : p.2.2.1 ≤ p2.2.2.1 ∧ p.2.2.2 ≤ p2.2.2.2 := ⟨hm3, hn3⟩
    have hle2 := (kc_X6_add l D cA E sz ad _ hj oq sgq sgv hE n σ0 b0 8 (((cI σ0 231 a1).toInt64)) (by decide) p2 e_p2).1
    refine hp_callVv (As := [.long ((cI σ0 231 a1).toInt64)]) (rest := []) cx hw ((kc_X6_add l D cA E _ ad _ hj oq sgq sgv hE n σ0 b0 8 (((cI σ0 231 a1).toInt64)) (by decide) p2 e_p2).2) (cwV 1 cx.2.2.2.2.2.1 (cd_giV cm_71 cm_40 cm_41 cm_5 cm_42) rfl rfl rfl hdc_X6_add ⟨Nat.le_of_ble_eq_true rfl, Nat.le_of_ble_eq_true rfl⟩) (cd_atO hj (by decide) (by decide)) rfl rfl hl.1 rfl (Nat.le_of_ble_eq_true rfl) dX1_record_19 ⟨by (try dsimp only); omega, by (try dsimp only); omega⟩ (fun u H locs hp hw => ?_)
    obtain ⟨ca, hj, rfl⟩ := hp
    refine W.widen (k := b0.1 - p2.2.2.1) (n := b0.2 - p2.2.2.2) (by omega) (by omega) ?_
    refine lv_aload_n cx.1 cx.2.1 dX1_record_22 rfl (lv_at hl 0 rfl) ?_
    refine cd_gO (o2 := 6) (e2 := 8) (o := 1) (k := 7) (f := 39) hj cx hw hic1 rfl ⟨by decide, rfl, by decide, rfl⟩ rfl (by decide) ⟨rfl, rfl⟩ (List.mem_cons_of_mem _ cm_196) dX1_record_23 ?_
    refine lv_iload_n cx.1 cx.2.1 dX1_record_26 rfl (lv_at hl 2 rfl) ?_
    refine lv_i2l (v := (a2.toInt64)) cx.1 cx.2.1 dX1_record_27 rfl ?_
    obtain ⟨p4, e_p4, h⟩ := md_ob h
    obtain ⟨hm5, hn5, h⟩ := cd_cks h
    have hM5 : p.2.2.1 ≤ p4.2.2.1 ∧ p.2.2.2 ≤ p4.2.2.2 := ⟨hm5, hn5⟩
    have hle4 := (kc_X6_add l D cA E sz ad _ hj oq sgq sgv hE n p2.2.1 (p2.2.2) 8 ((a2.toInt64)) (by decide) p4 e_p4).1
    refine hp_callVv (As := [.long (a2.toInt64)]) (rest := []) cx hw ((kc_X6_add l D cA E _ ad _ hj oq sgq sgv hE n p2.2.1 (p2.2.2) 8 ((a2.toInt64)) (by decide) p4 e_p4).2) (cwV 1 cx.2.2.2.2.2.1 (cd_giV cm_71 cm_40 cm_41 cm_5 cm_42) rfl rfl rfl hdc_X6_add ⟨Nat.le_of_ble_eq_true rfl, Nat.le_of_ble_eq_true rfl⟩) (cd_atO hj (by decide) (by decide)) rfl rfl hl.1 rfl (Nat.le_of_ble_eq_true rfl) dX1_record_28 ⟨by (try dsimp only); omega, by (try dsimp only); omega⟩ (fun u H locs hp hw => ?_)
    obtain ⟨ca, hj, rfl⟩ := hp
    refine W.widen (k := b0.1 - p4.2.2.1) (n := b0.2 - p4.2.2.2) (by omega) (by omega) ?_
    refine lv_aload_n cx.1 cx.2.1 dX1_record_31 rfl (lv_at hl 0 rfl) ?_
    refine cd_gO (o2 := 6) (e2 := 8) (o := 1) (k := 7) (f := 39) hj cx hw hic1 rfl ⟨by decide, rfl, by decide, rfl⟩ rfl (by decide) ⟨rfl, rfl⟩ (List.mem_cons_of_mem _ cm_196) dX1_record_32 ?_
    refine lv_iload_n cx.1 cx.2.1 dX1_record_35 rfl (lv_at hl 3 rfl) ?_
    refine lv_i2l (v := (a3.toInt64)) cx.1 cx.2.1 dX1_record_36 rfl ?_
    obtain ⟨p6, e_p6, h⟩ := md_ob h
    obtain ⟨hm7, hn7, h⟩ := cd_cks h
    have hM7 : p.2.2.1 ≤ p6.2.2.1 ∧ p.2.2.2 ≤ p6.2.2.2 := ⟨hm7, hn7⟩
    have hle6 := (kc_X6_add l D cA E sz ad _ hj oq sgq sgv hE n p4.2.1 (p4.2.2) 8 ((a3.toInt64)) (by decide) p6 e_p6).1
    refine hp_callVv (As := [.long (a3.toInt64)]) (rest := []) cx hw ((kc_X6_add l D cA E _ ad _ hj oq sgq sgv hE n p4.2.1 (p4.2.2) 8 ((a3.toInt64)) (by decide) p6 e_p6).2) (cwV 1 cx.2.2.2.2.2.1 (cd_giV cm_71 cm_40 cm_41 cm_5 cm_42) rfl rfl rfl hdc_X6_add ⟨Nat.le_of_ble_eq_true rfl, Nat.le_of_ble_eq_true rfl⟩) (cd_atO hj (by decide) (by decide)) rfl rfl hl.1 rfl (Nat.le_of_ble_eq_true rfl) dX1_record_37 ⟨by (try dsimp only); omega, by (try dsimp only); omega⟩ (fun u H locs hp hw => ?_)
    obtain ⟨ca, hj, rfl⟩ := hp
    refine W.widen (k := b0.1 - p6.2.2.1) (n := b0.2 - p6.2.2.2) (by omega) (by omega) ?_
    refine lv_aload_n cx.1 cx.2.1 dX1_record_40 rfl (lv_at hl 0 rfl) ?_
    refine cd_gO (o2 := 6) (e2 := 8) (o := 1) (k := 7) (f := 39) hj cx hw hic1 rfl ⟨by decide, rfl, by decide, rfl⟩ rfl (by decide) ⟨rfl, rfl⟩ (List.mem_cons_of_mem _ cm_196) dX1_record_41 ?_
    refine lv_iload cx.1 cx.2.1 dX1_record_44 (lv_at hl 4 rfl) ?_
    refine lv_i2l (v := (a4.toInt64)) cx.1 cx.2.1 dX1_record_46 rfl ?_
    obtain ⟨p8, e_p8, h⟩ := md_ob h
    obtain ⟨hm9, hn9, h⟩ := cd_cks h
    have hM9 : p.2.2.1 ≤ p8.2.2.1 ∧ p.2.2.2 ≤ p8.2.2.2 := ⟨hm9, hn9⟩
    have hle8 := (kc_X6_add l D cA E sz ad _ hj oq sgq sgv hE n p6.2.1 (p6.2.2) 8 ((a4.toInt64)) (by decide) p8 e_p8).1
    refine hp_callVv (As := [.long (a4.toInt64)]) (rest := []) cx hw ((kc_X6_add l D cA E _ ad _ hj oq sgq sgv hE n p6.2.1 (p6.2.2) 8 ((a4.toInt64)) (by decide) p8 e_p8).2) (cwV 1 cx.2.2.2.2.2.1 (cd_giV cm_71 cm_40 cm_41 cm_5 cm_42) rfl rfl rfl hdc_X6_add ⟨Nat.le_of_ble_eq_true rfl, Nat.le_of_ble_eq_true rfl⟩) (cd_atO hj (by decide) (by decide)) rfl rfl hl.1 rfl (Nat.le_of_ble_eq_true rfl) dX1_record_47 ⟨by (try dsimp only); omega, by (try dsimp only); omega⟩ (fun u H locs hp hw => ?_)
    obtain ⟨ca, hj, rfl⟩ := hp
    refine W.widen (k := b0.1 - p8.2.2.1) (n := b0.2 - p8.2.2.2) (by omega) (by omega) ?_
    refine lv_aload_n cx.1 cx.2.1 dX1_record_50 rfl (lv_at hl 0 rfl) ?_
    refine cd_gO (o2 := 6) (e2 := 8) (o := 1) (k := 7) (f := 39) hj cx hw hic1 rfl ⟨by decide, rfl, by decide, rfl⟩ rfl (by decide) ⟨rfl, rfl⟩ (List.mem_cons_of_mem _ cm_196) dX1_record_51 ?_
    refine lv_iload cx.1 cx.2.1 dX1_record_54 (lv_at hl 5 rfl) ?_
    refine lv_i2l (v := (a5.toInt64)) cx.1 cx.2.1 dX1_record_56 rfl ?_
    obtain ⟨p10, e_p10, h⟩ := md_ob h
    obtain ⟨hm11, hn11, h⟩ := cd_cks h
    have hM11 : p.2.2.1 ≤ p10.2.2.1 ∧ p.2.2.2 ≤ p10.2.2.2 := ⟨hm11, hn11⟩
    have hle10 := (kc_X6_add l D cA E sz ad _ hj oq sgq sgv hE n p8.2.1 (p8.2.2) 8 ((a5.toInt64)) (by decide) p10 e_p10).1
    refine hp_callVv (As := [.long (a5.toInt64)]) (rest := []) cx hw ((kc_X6_add l D cA E _ ad _ hj oq sgq sgv hE n p8.2.1 (p8.2.2) 8 ((a5.toInt64)) (by decide) p10 e_p10).2) (cwV 1 cx.2.2.2.2.2.1 (cd_giV cm_71 cm_40 cm_41 cm_5 cm_42) rfl rfl rfl hdc_X6_add ⟨Nat.le_of_ble_eq_true rfl, Nat.le_of_ble_eq_true rfl⟩) (cd_atO hj (by decide) (by decide)) rfl rfl hl.1 rfl (Nat.le_of_ble_eq_true rfl) dX1_record_57 ⟨by (try dsimp only); omega, by (try dsimp only); omega⟩ (fun u H locs hp hw => ?_)
    obtain ⟨ca, hj, rfl⟩ := hp
    refine W.widen (k := b0.1 - p10.2.2.1) (n := b0.2 - p10.2.2.2) (by omega) (by omega) ?_
    exact J60 _ hj p10.2.1 (p10.2.2) _ _ _ (by omega) (by omega) (by omega) (by omega) h hw (lv_sub hl [0] rfl)
set_option maxHeartbeats 4000000 in
set_option maxRecDepth 100000 in
theorem kc_X6_get (l : Launch) (D : va_G) (cA : Nat → ClassId) (E : hp_N) (sz : Nat) (ad : Nat → Nat → Nat) (ca0 : Nat → Nat) (hj : cd_inj ad ca0) (oq sgq sgv : Nat) (hE : cd_E E oq sgq sgv) (n : Nat) (σ0 : cd_S) (a0 : Nat) (a1 : Int32) (hb_a0 : a0 < 197) (p : (Int64 × cd_S)) (h : f_X6_get n σ0 a0 a1 = some p) : Met l yX6_get (Cond.code yX6_get cX6_get 2 (some .long) :: v_CLS) ({ frames := 0, cells := 0, slots := 0, locals := 0 }) (hp_Pc D vwCl (hp_Tl cA) E sz (cd_pic cA ad ca0 σ0) [.ref (ad 6 a0), .int a1]) (hp_Ql D vwCl (hp_Tl cA) sz (cd_pic cA ad ca0 σ0) (fun r u => r = p.1 ∧ ∃ ca1, cd_inj ad ca1 ∧ u = cd_pic cA ad ca1 p.2)) 0 0 (hp_A (cd_pic cA ad ca0 σ0) sz) := by
  refine hp_ofW (cc := cX6_get) (maxL := 2) (ret := (some .long)) (by decide) rfl (Nat.le_of_ble_eq_true rfl) ?_
  intro pp ee ss mm bb mt cd ls cx hsz hw hl
  have hl : lv_has ls 2 [(0, .ref (ad 6 a0)), (1, .int a1)] := hl
  have J21 : ∀ (ca : Nat → Nat) (hj : cd_inj ad ca) (σ : cd_S) (H : Heap) (locs : List Loc) (ls : Array Slot), f_X6_get_J21 n a0 σ = some p → hp_w D vwCl (hp_Tl cA) E (hp_A (cd_pic cA ad ca0 σ0) sz) ss H locs (cd_pic cA ad ca σ) → lv_has ls 2 [] → W pp l ee ({ frames := 0, cells := 0, slots := 0, locals := 0 }) ss mm [.ref (ad 6 a0), .int a1].toArray bb mt cd H locs 0 0 (MQ bb (hp_Ql D vwCl (hp_Tl cA) sz (cd_pic cA ad ca0 σ0) (fun r u => r = p.1 ∧ ∃ ca1, cd_inj ad ca1 ∧ u = cd_pic cA ad ca1 p.2)) [.ref (ad 6 a0), .int a1].toArray ss 0 0 (hp_A (cd_pic cA ad ca0 σ0) sz)) (F0 mm 21 ls []) := by
    intro ca hj σ H locs ls h hw hl
    refine lv_lconst (v := 0) cx.1 cx.2.1 dX6_get_21 (by decide) ?_
    exact hp_lret cx hw (cd_ret hj h) dX6_get_22
  refine lv_iload_n cx.1 cx.2.1 dX6_get_0 rfl (lv_at hl 1 rfl) ?_
  refine lv_if_lt (tgt := 21) cx.1 cx.2.1 dX6_get_1 (by decide) (fun c1 => ?_) (fun c1 => ?_)
  · have h := md_ip c1 h
    exact J21 _ hj σ0 _ _ _ h hw (lv_sub hl [] rfl)
  · have h := md_in c1 h
    refine lv_iload_n cx.1 cx.2.1 dX6_get_4 rfl (lv_at hl 1 rfl) ?_
    refine lv_aload_n cx.1 cx.2.1 dX6_get_5 rfl (lv_at hl 0 rfl) ?_
    refine cd_gI (o := 6) (k := 1) (f := 193) hj cx hw hic6 rfl ⟨by decide, rfl, by decide, rfl⟩ rfl (show _ < 197 by omega) (List.mem_cons_of_mem _ cm_0) dX6_get_6 ?_
    refine lv_icmp_ge (tgt := 21) cx.1 cx.2.1 dX6_get_9 (by decide) (fun c9 => ?_) (fun c9 => ?_)
    · have h := md_ip c9 h
      exact J21 _ hj σ0 _ _ _ h hw (lv_sub hl [] rfl)
    · have h := md_in c9 h
      refine lv_aload_n cx.1 cx.2.1 dX6_get_12 rfl (lv_at hl 0 rfl) ?_
      refine cd_gC (o := 6) (k := 0) (f := 192) hj cx hw hic6 rfl ⟨by decide, rfl, by decide, rfl⟩ rfl (show _ < 197 by omega) (List.mem_cons_of_mem _ cm_15) dX6_get_13 ?_
      refine lv_iload_n cx.1 cx.2.1 dX6_get_16 rfl (lv_at hl 1 rfl) ?_
      obtain ⟨v1, e_v1, h⟩ := md_ob h
      refine cd_lF hj cx hw (show _ < 197 by omega) e_v1 dX6_get_17 ?_
      refine lv_goto (tgt := 22) cx.1 cx.2.1 dX6_get_18 (by decide) ?_
      exact hp_lret cx hw (cd_ret hj h) dX6_get_22
set_option maxHeartbeats 4000000 in
set_option maxRecDepth 100000 in
theorem kc_X7_baseNow (l : Launch) (D : va_G) (cA : Nat → ClassId) (E : hp_N) (sz : Nat) (ad : Nat → Nat → Nat) (ca0 : Nat → Nat) (hj : cd_inj ad ca0) (oq sgq sgv : Nat) (hE : cd_E E oq sgq sgv) (n : Nat) (σ0 : cd_S) (a0 : Nat) (hb_a0 : a0 < 8) (p : (Int32 × cd_S)) (h : f_X7_baseNow n σ0 a0 = some p) : Met l yX7_baseNow (Cond.code yX7_baseNow cX7_baseNow 1 (some .int) :: v_CLS) ({ frames := 1, cells := 0, slots := 0, locals := 20 }) (hp_Pc D vwCl (hp_Tl cA) E sz (cd_pic cA ad ca0 σ0) [.ref (ad 7 a0)]) (hp_Qi D vwCl (hp_Tl cA) sz (cd_pic cA ad ca0 σ0) (fun r u => r = p.1 ∧ ∃ ca1, cd_inj ad ca1 ∧ u = cd_pic cA ad ca1 p.2)) 0 0 (hp_A (cd_pic cA ad ca0 σ0) sz) := by
  refine hp_ofW (cc := cX7_baseNow) (maxL := 1) (ret := (some .int)) (by decide) rfl (Nat.le_of_ble_eq_true rfl) ?_
  intro pp ee ss mm bb mt cd ls cx hsz hw hl
  have hl : lv_has ls 1 [(0, .ref (ad 7 a0))] := hl
  refine lv_aload_n cx.1 cx.2.1 dX7_baseNow_0 rfl (lv_at hl 0 rfl) ?_
  obtain ⟨p1, e_p1, h⟩ := md_ob h
  refine hp_callVi (As := []) (rest := []) cx hw (kc_X7_framed l D cA E _ ad _ hj oq sgq sgv hE n σ0 a0 (show _ < 8 by omega) p1 e_p1) (cwV 0 cx.2.2.2.2.2.1 (cd_giV cm_91 cm_92 cm_93 cm_94 cm_95) rfl rfl rfl hdc_X7_framed ⟨Nat.le_of_ble_eq_true rfl, Nat.le_of_ble_eq_true rfl⟩) (cd_atO hj (by decide) (show _ < 8 by omega)) rfl rfl hl.1 rfl (Nat.le_of_ble_eq_true rfl) dX7_baseNow_1 ⟨Nat.le_refl _, Nat.le_refl _⟩ (fun r u H locs hp hw => ?_)
  obtain ⟨rfl, ca, hj, rfl⟩ := hp
  refine lv_if_eq (tgt := 21) cx.1 cx.2.1 dX7_baseNow_4 (by decide) (fun c4 => ?_) (fun c4 => ?_)
  · have h := md_ip c4 h
    refine lv_iconst (v := 0) cx.1 cx.2.1 dX7_baseNow_21 (by decide) ?_
    exact hp_iret cx hw (cd_ret hj h) dX7_baseNow_22
  · have h := md_in c4 h
    refine lv_aload_n cx.1 cx.2.1 dX7_baseNow_7 rfl (lv_at hl 0 rfl) ?_
    refine cd_gA (o := 7) (k := 2) (f := 226) hj cx hw hic7 rfl ⟨by decide, rfl, by decide, rfl⟩ rfl (show _ < 8 by omega) (List.mem_cons_of_mem _ cm_103) dX7_baseNow_8 ?_
    refine lv_aload_n cx.1 cx.2.1 dX7_baseNow_11 rfl (lv_at hl 0 rfl) ?_
    refine cd_gI (o := 7) (k := 8) (f := 232) hj cx hw hic7 rfl ⟨by decide, rfl, by decide, rfl⟩ rfl (show _ < 8 by omega) (List.mem_cons_of_mem _ cm_90) dX7_baseNow_12 ?_
    refine lv_iconst (v := 1) cx.1 cx.2.1 dX7_baseNow_15 (by decide) ?_
    refine lv_isub cx.1 cx.2.1 dX7_baseNow_16 ?_
    obtain ⟨v2, e_v2, h⟩ := md_ob h
    refine cd_lI (f := 226) hj cx hw (by decide) (show _ < 8 by omega) rfl e_v2 dX7_baseNow_17 ?_
    refine lv_goto (tgt := 22) cx.1 cx.2.1 dX7_baseNow_18 (by decide) ?_
    exact hp_iret cx hw (cd_ret hj h) dX7_baseNow_22
set_option maxHeartbeats 4000000 in
set_option maxRecDepth 100000 in
theorem kc_X7_dropToTry (l : Launch) (D : va_G) (cA : Nat → ClassId) (E : hp_N) (sz : Nat) (ad : Nat → Nat → Nat) (ca0 : Nat → Nat) (hj : cd_inj ad ca0) (oq sgq sgv : Nat) (hE : cd_E E oq sgq sgv) (n : Nat) (σ0 : cd_S) (a0 : Nat) (hb_a0 : a0 < 8) (p : (Int32 × cd_S)) (h : f_X7_dropToTry n σ0 a0 = some p) : Met l yX7_dropToTry (Cond.code yX7_dropToTry cX7_dropToTry 4 (some .int) :: v_CLS) ({ frames := 2, cells := 0, slots := 0, locals := 40 }) (hp_Pc D vwCl (hp_Tl cA) E sz (cd_pic cA ad ca0 σ0) [.ref (ad 7 a0)]) (hp_Qi D vwCl (hp_Tl cA) sz (cd_pic cA ad ca0 σ0) (fun r u => r = p.1 ∧ ∃ ca1, cd_inj ad ca1 ∧ u = cd_pic cA ad ca1 p.2)) 0 0 (hp_A (cd_pic cA ad ca0 σ0) sz) := by
  refine hp_ofW (cc := cX7_dropToTry) (maxL := 4) (ret := (some .int)) (by decide) rfl (Nat.le_of_ble_eq_true rfl) ?_
  intro pp ee ss mm bb mt cd ls cx hsz hw hl
  have hl : lv_has ls 4 [(0, .ref (ad 7 a0))] := hl
  refine lv_aload_n cx.1 cx.2.1 dX7_dropToTry_0 rfl (lv_at hl 0 rfl) ?_
  obtain ⟨p1, e_p1, h⟩ := md_ob h
  refine hp_callVi (As := []) (rest := []) cx hw (kc_X7_baseNow l D cA E _ ad _ hj oq sgq sgv hE n σ0 a0 (show _ < 8 by omega) p1 e_p1) (cwV 0 cx.2.2.2.2.2.1 (cd_giV cm_235 cm_236 cm_237 cm_94 cm_238) rfl rfl rfl hdc_X7_baseNow ⟨Nat.le_of_ble_eq_true rfl, Nat.le_of_ble_eq_true rfl⟩) (cd_atO hj (by decide) (show _ < 8 by omega)) rfl rfl hl.1 rfl (Nat.le_of_ble_eq_true rfl) dX7_dropToTry_1 ⟨Nat.le_refl _, Nat.le_refl _⟩ (fun r u H locs hp hw => ?_)
  obtain ⟨rfl, ca, hj, rfl⟩ := hp
  refine lv_istore_n (lv' := [(1, .int p1.1), (0, .ref (ad 7 a0))]) cx.1 cx.2.1 dX7_dropToTry_4 rfl hl (by decide) rfl (fun ls hl => ?_)
  refine lv_aload_n cx.1 cx.2.1 dX7_dropToTry_5 rfl (lv_at hl 1 rfl) ?_
  refine cd_gO (o2 := 6) (e2 := (9 + 1 * a0)) (o := 7) (k := 6) (f := 230) hj cx hw hic7 rfl ⟨by decide, rfl, by decide, rfl⟩ rfl (show _ < 8 by omega) ⟨rfl, rfl⟩ (List.mem_cons_of_mem _ cm_109) dX7_dropToTry_6 ?_
  refine cd_gI (o := 6) (k := 1) (f := 193) hj cx hw hic6 rfl ⟨by decide, rfl, by decide, rfl⟩ rfl (show _ < 197 by omega) (List.mem_cons_of_mem _ cm_110) dX7_dropToTry_9 ?_
  refine lv_iconst (v := 1) cx.1 cx.2.1 dX7_dropToTry_12 (by decide) ?_
  refine lv_isub cx.1 cx.2.1 dX7_dropToTry_13 ?_
  refine lv_istore_n (lv' := [(2, .int ((cI p1.2 193 ((9 + 1 * a0))) - 1)), (1, .int p1.1), (0, .ref (ad 7 a0))]) cx.1 cx.2.1 dX7_dropToTry_14 rfl hl (by decide) rfl (fun ls hl => ?_)
  have L15 : ∀ (j : Nat) (ca : Nat → Nat) (hj : cd_inj ad ca) (σ : cd_S) (l1 : Int32) (l2 : Int32) (q : ((Int32 × cd_S) ⊕ (cd_S × Int32))) (H : Heap) (locs : List Loc) (ls : Array Slot), f_X7_dropToTry_L15 n a0 l1 j σ l2 = some q → hp_w D vwCl (hp_Tl cA) E (hp_A (cd_pic cA ad ca0 σ0) sz) ss H locs (cd_pic cA ad ca σ) → lv_has ls 4 [(0, .ref (ad 7 a0)), (1, .int l1), (2, .int l2)] → (∀ t, q = Sum.inr t → (∀ (ca : Nat → Nat) (hj : cd_inj ad ca) (H : Heap) (locs : List Loc) (ls : Array Slot), hp_w D vwCl (hp_Tl cA) E (hp_A (cd_pic cA ad ca0 σ0) sz) ss H locs (cd_pic cA ad ca t.1) → lv_has ls 4 [] → W pp l ee ({ frames := 2, cells := 0, slots := 0, locals := 40 }) ss mm [.ref (ad 7 a0)].toArray bb mt cd H locs 0 0 (MQ bb (hp_Qi D vwCl (hp_Tl cA) sz (cd_pic cA ad ca0 σ0) (fun r u => r = p.1 ∧ ∃ ca1, cd_inj ad ca1 ∧ u = cd_pic cA ad ca1 p.2)) [.ref (ad 7 a0)].toArray ss 0 0 (hp_A (cd_pic cA ad ca0 σ0) sz)) (F0 mm 60 ls []))) → (∀ r, q = Sum.inl r → r = p) → W pp l ee ({ frames := 2, cells := 0, slots := 0, locals := 40 }) ss mm [.ref (ad 7 a0)].toArray bb mt cd H locs 0 0 (MQ bb (hp_Qi D vwCl (hp_Tl cA) sz (cd_pic cA ad ca0 σ0) (fun r u => r = p.1 ∧ ∃ ca1, cd_inj ad ca1 ∧ u = cd_pic cA ad ca1 p.2)) [.ref (ad 7 a0)].toArray ss 0 0 (hp_A (cd_pic cA ad ca0 σ0) sz)) (F0 mm 15 ls []) := by
    intro j
    induction j with
    | zero => intro ca hj σ l1 l2 q H locs ls h; exact nomatch h
    | succ j ih =>
      intro ca hj σ l1 l2 q H locs ls h hw hl K KR
      unfold f_X7_dropToTry_L15 at h
      refine lv_iload_n cx.1 cx.2.1 dX7_dropToTry_15 rfl (lv_at hl 2 rfl) ?_
      refine lv_iload_n cx.1 cx.2.1 dX7_dropToTry_16 rfl (lv_at hl 1 rfl) ?_
      refine lv_icmp_lt (tgt := 60) cx.1 cx.2.1 dX7_dropToTry_17 (by decide) (fun c17 => ?_) (fun c17 => ?_)
      · have h := md_ip c17 h
        exact K _ (Option.some.inj h).symm _ hj _ _ _ hw (lv_sub hl [] rfl)
      · have h := md_in c17 h
        refine lv_aload_n cx.1 cx.2.1 dX7_dropToTry_20 rfl (lv_at hl 0 rfl) ?_
        refine cd_gO (o2 := 6) (e2 := (9 + 1 * a0)) (o := 7) (k := 6) (f := 230) hj cx hw hic7 rfl ⟨by decide, rfl, by decide, rfl⟩ rfl (show _ < 8 by omega) ⟨rfl, rfl⟩ (List.mem_cons_of_mem _ cm_109) dX7_dropToTry_21 ?_
        refine lv_iload_n cx.1 cx.2.1 dX7_dropToTry_24 rfl (lv_at hl 2 rfl) ?_
        obtain ⟨p2, e_p2, h⟩ := md_ob h
        refine hp_callVl (As := [.int l2]) (rest := []) cx hw (kc_X6_get l D cA E _ ad _ hj oq sgq sgv hE n σ ((9 + 1 * a0)) l2 (show _ < 197 by omega) p2 e_p2) (cwV 1 cx.2.2.2.2.2.1 (cd_giV cm_239 cm_240 cm_241 cm_5 cm_242) rfl rfl rfl hdc_X6_get ⟨Nat.le_of_ble_eq_true rfl, Nat.le_of_ble_eq_true rfl⟩) (cd_atO hj (by decide) (show _ < 197 by omega)) rfl rfl hl.1 rfl (Nat.le_of_ble_eq_true rfl) dX7_dropToTry_25 ⟨Nat.le_refl _, Nat.le_refl _⟩ (fun r u H locs hp hw => ?_)
        obtain ⟨rfl, ca, hj, rfl⟩ := hp
        obtain ⟨p3, e_p3, h⟩ := md_ob h
        refine hp_callSi (As := [.long p2.1]) (rest := []) cx hw (kc_X1_sortOf l D cA E _ ad _ hj oq sgq sgv hE n p2.2 (p2.1) p3 e_p3) (va_cwS 1 cx.2.2.2.2.2.1 (cd_giS cm_243 cm_244 cm_130 cm_245) rfl rfl rfl (cd_hdS hdc_X1_sortOf) ⟨Nat.le_of_ble_eq_true rfl, Nat.le_of_ble_eq_true rfl⟩) rfl hl.1 rfl (Nat.le_of_ble_eq_true rfl) dX7_dropToTry_28 ⟨Nat.le_refl _, Nat.le_refl _⟩ (fun r u H locs hp hw => ?_)
        obtain ⟨rfl, ca, hj, rfl⟩ := hp
        refine lv_iconst (v := 5) cx.1 cx.2.1 dX7_dropToTry_31 (by decide) ?_
        refine lv_icmp_ne (tgt := 54) cx.1 cx.2.1 dX7_dropToTry_32 (by decide) (fun c32 => ?_) (fun c32 => ?_)
        · have h := md_in c32 h
          refine lv_iinc (v := (l2 + (-1))) (lv' := [(2, .int (l2 + (-1))), (0, .ref (ad 7 a0)), (1, .int l1)]) cx.1 cx.2.1 dX7_dropToTry_54 hl (k := 2) rfl rfl (by decide) rfl (fun ls hl => ?_)
          refine lv_goto (tgt := 15) cx.1 cx.2.1 dX7_dropToTry_57 (by decide) ?_
          exact ih _ hj p3.2 l1 ((l2 + (-1))) q _ _ _ h hw (lv_sub hl [1, 2, 0] rfl) K KR
        · have h := md_ip c32 h
          refine lv_aload_n cx.1 cx.2.1 dX7_dropToTry_35 rfl (lv_at hl 0 rfl) ?_
          refine cd_gO (o2 := 6) (e2 := (9 + 1 * a0)) (o := 7) (k := 6) (f := 230) hj cx hw hic7 rfl ⟨by decide, rfl, by decide, rfl⟩ rfl (show _ < 8 by omega) ⟨rfl, rfl⟩ (List.mem_cons_of_mem _ cm_109) dX7_dropToTry_36 ?_
          refine lv_iload_n cx.1 cx.2.1 dX7_dropToTry_39 rfl (lv_at hl 2 rfl) ?_
          obtain ⟨p4, e_p4, h⟩ := md_ob h
          refine hp_callVi (As := [.int l2]) (rest := []) cx hw (kc_X6_at l D cA E _ ad _ hj oq sgq sgv hE n p3.2 ((9 + 1 * a0)) l2 (show _ < 197 by omega) p4 e_p4) (cwV 1 cx.2.2.2.2.2.1 (cd_giV cm_246 cm_17 cm_18 cm_5 cm_19) rfl rfl rfl hdc_X6_at ⟨Nat.le_of_ble_eq_true rfl, Nat.le_of_ble_eq_true rfl⟩) (cd_atO hj (by decide) (show _ < 197 by omega)) rfl rfl hl.1 rfl (Nat.le_of_ble_eq_true rfl) dX7_dropToTry_40 ⟨Nat.le_refl _, Nat.le_refl _⟩ (fun r u H locs hp hw => ?_)
          obtain ⟨rfl, ca, hj, rfl⟩ := hp
          refine lv_istore_n (lv' := [(3, .int p4.1), (0, .ref (ad 7 a0)), (1, .int l1), (2, .int l2)]) cx.1 cx.2.1 dX7_dropToTry_43 rfl hl (by decide) rfl (fun ls hl => ?_)
          refine lv_aload_n cx.1 cx.2.1 dX7_dropToTry_44 rfl (lv_at hl 1 rfl) ?_
          refine cd_gO (o2 := 6) (e2 := (9 + 1 * a0)) (o := 7) (k := 6) (f := 230) hj cx hw hic7 rfl ⟨by decide, rfl, by decide, rfl⟩ rfl (show _ < 8 by omega) ⟨rfl, rfl⟩ (List.mem_cons_of_mem _ cm_109) dX7_dropToTry_45 ?_
          refine lv_iload_n cx.1 cx.2.1 dX7_dropToTry_48 rfl (lv_at hl 3 rfl) ?_
          obtain ⟨p5, e_p5, h⟩ := md_ob h
          refine hp_callVv (As := [.int l2]) (rest := []) cx hw (kc_X6_cut l D cA E _ ad _ hj oq sgq sgv hE n p4.2 ((9 + 1 * a0)) l2 (show _ < 197 by omega) p5 e_p5) (cwV 1 cx.2.2.2.2.2.1 (cd_giV cm_190 cm_3 cm_4 cm_5 cm_6) rfl rfl rfl hdc_X6_cut ⟨Nat.le_of_ble_eq_true rfl, Nat.le_of_ble_eq_true rfl⟩) (cd_atO hj (by decide) (show _ < 197 by omega)) rfl rfl hl.1 rfl (Nat.le_of_ble_eq_true rfl) dX7_dropToTry_49 ⟨Nat.le_refl _, Nat.le_refl _⟩ (fun u H locs hp hw => ?_)
          obtain ⟨ca, hj, rfl⟩ := hp
          refine lv_iload_n cx.1 cx.2.1 dX7_dropToTry_52 rfl (lv_at hl 0 rfl) ?_
          exact hp_iret cx hw (cd_ret hj (congrArg some (KR _ (Option.some.inj h).symm))) dX7_dropToTry_53
  obtain ⟨q6, e_q6, h⟩ := md_ob h
  refine L15 n _ hj p1.2 (p1.1) (((cI p1.2 193 ((9 + 1 * a0))) - 1)) q6 _ _ _ e_q6 hw (lv_sub hl [2, 1, 0] rfl) (fun t6 hq6 ca hj H locs ls hw hl => ?_) (fun r hr => by subst hr; exact Option.some.inj h)
  subst hq6
  have h := md_inr h
  refine lv_iconst (v := (-1)) cx.1 cx.2.1 dX7_dropToTry_60 (by decide) ?_
  exact hp_iret cx hw (cd_ret hj h) dX7_dropToTry_61
set_option maxHeartbeats 4000000 in
set_option maxRecDepth 100000 in
theorem kc_X7_finish (l : Launch) (D : va_G) (cA : Nat → ClassId) (E : hp_N) (sz : Nat) (ad : Nat → Nat → Nat) (ca0 : Nat → Nat) (hj : cd_inj ad ca0) (oq sgq sgv : Nat) (hE : cd_E E oq sgq sgv) (n : Nat) (σ0 : cd_S) (a0 : Nat) (a1 : Int32) (a2 : Int64) (hb_a0 : a0 < 8) (p : (Int32 × cd_S)) (h : f_X7_finish n σ0 a0 a1 a2 = some p) : Met l yX7_finish (Cond.code yX7_finish cX7_finish 4 none :: v_CLS) ({ frames := 0, cells := 0, slots := 0, locals := 0 }) (hp_Pc D vwCl (hp_Tl cA) E sz (cd_pic cA ad ca0 σ0) [.ref (ad 7 a0), .int a1, .long a2]) (hp_Qv D vwCl (hp_Tl cA) sz (cd_pic cA ad ca0 σ0) (fun u => ∃ ca1, cd_inj ad ca1 ∧ u = cd_pic cA ad ca1 p.2)) 0 0 (hp_A (cd_pic cA ad ca0 σ0) sz) := by
  refine hp_ofW (cc := cX7_finish) (maxL := 4) (ret := none) (by decide) rfl (Nat.le_of_ble_eq_true rfl) ?_
  intro pp ee ss mm bb mt cd ls cx hsz hw hl
  have hl : lv_has ls 4 [(0, .ref (ad 7 a0)), (1, .int a1), (2, .long a2)] := hl
  refine lv_aload_n cx.1 cx.2.1 dX7_finish_0 rfl (lv_at hl 0 rfl) ?_
  refine lv_iload_n cx.1 cx.2.1 dX7_finish_1 rfl (lv_at hl 1 rfl) ?_
  obtain ⟨σ1, e_σ1, h⟩ := md_ob h
  refine cd_pI (o := 7) (k := 10) (f := 234) hj cx hw hic7 rfl ⟨by decide, rfl, by decide, rfl⟩ tyX7_ok nmX7 rfl (show _ < 8 by omega) rfl (List.mem_cons_of_mem _ cm_187) rfl e_σ1 dX7_finish_2 (fun H locs hw => ?_)
  refine lv_aload_n cx.1 cx.2.1 dX7_finish_5 rfl (lv_at hl 0 rfl) ?_
  refine lv_lload_n cx.1 cx.2.1 dX7_finish_6 rfl (lv_at hl 2 rfl) ?_
  obtain ⟨σ2, e_σ2, h⟩ := md_ob h
  refine cd_pJ (o := 7) (k := 12) (f := 236) hj cx hw hic7 rfl ⟨by decide, rfl, by decide, rfl⟩ tyX7_ok nmX7 rfl (show _ < 8 by omega) rfl (List.mem_cons_of_mem _ cm_189) rfl e_σ2 dX7_finish_7 (fun H locs hw => ?_)
  exact hp_vret cx hw ((cd_ret hj h).2) dX7_finish_10
set_option maxHeartbeats 4000000 in
set_option maxRecDepth 100000 in
theorem kc_X7_goTo (l : Launch) (D : va_G) (cA : Nat → ClassId) (E : hp_N) (sz : Nat) (ad : Nat → Nat → Nat) (ca0 : Nat → Nat) (hj : cd_inj ad ca0) (oq sgq sgv : Nat) (hE : cd_E E oq sgq sgv) (n : Nat) (σ0 : cd_S) (a0 : Nat) (a1 : Int32) (hb_a0 : a0 < 8) (p : (Int32 × cd_S)) (h : f_X7_goTo n σ0 a0 a1 = some p) : Met l yX7_goTo (Cond.code yX7_goTo cX7_goTo 2 none :: v_CLS) ({ frames := 1, cells := 0, slots := 0, locals := 20 }) (hp_Pc D vwCl (hp_Tl cA) E sz (cd_pic cA ad ca0 σ0) [.ref (ad 7 a0), .int a1]) (hp_Qv D vwCl (hp_Tl cA) sz (cd_pic cA ad ca0 σ0) (fun u => ∃ ca1, cd_inj ad ca1 ∧ u = cd_pic cA ad ca1 p.2)) 0 0 (hp_A (cd_pic cA ad ca0 σ0) sz) := by
  refine hp_ofW (cc := cX7_goTo) (maxL := 2) (ret := none) (by decide) rfl (Nat.le_of_ble_eq_true rfl) ?_
  intro pp ee ss mm bb mt cd ls cx hsz hw hl
  have hl : lv_has ls 2 [(0, .ref (ad 7 a0)), (1, .int a1)] := hl
  refine lv_aload_n cx.1 cx.2.1 dX7_goTo_0 rfl (lv_at hl 0 rfl) ?_
  obtain ⟨p1, e_p1, h⟩ := md_ob h
  refine hp_callVi (As := []) (rest := []) cx hw (kc_X7_framed l D cA E _ ad _ hj oq sgq sgv hE n σ0 a0 (show _ < 8 by omega) p1 e_p1) (cwV 0 cx.2.2.2.2.2.1 (cd_giV cm_91 cm_92 cm_93 cm_94 cm_95) rfl rfl rfl hdc_X7_framed ⟨Nat.le_of_ble_eq_true rfl, Nat.le_of_ble_eq_true rfl⟩) (cd_atO hj (by decide) (show _ < 8 by omega)) rfl rfl hl.1 rfl (Nat.le_of_ble_eq_true rfl) dX7_goTo_1 ⟨Nat.le_refl _, Nat.le_refl _⟩ (fun r u H locs hp hw => ?_)
  obtain ⟨rfl, ca, hj, rfl⟩ := hp
  refine lv_if_eq (tgt := 19) cx.1 cx.2.1 dX7_goTo_4 (by decide) (fun c4 => ?_) (fun c4 => ?_)
  · have h := md_ip c4 h
    exact hp_vret cx hw ((cd_ret hj h).2) dX7_goTo_19
  · have h := md_in c4 h
    refine lv_aload_n cx.1 cx.2.1 dX7_goTo_7 rfl (lv_at hl 0 rfl) ?_
    refine cd_gA (o := 7) (k := 1) (f := 225) hj cx hw hic7 rfl ⟨by decide, rfl, by decide, rfl⟩ rfl (show _ < 8 by omega) (List.mem_cons_of_mem _ cm_102) dX7_goTo_8 ?_
    refine lv_aload_n cx.1 cx.2.1 dX7_goTo_11 rfl (lv_at hl 0 rfl) ?_
    refine cd_gI (o := 7) (k := 8) (f := 232) hj cx hw hic7 rfl ⟨by decide, rfl, by decide, rfl⟩ rfl (show _ < 8 by omega) (List.mem_cons_of_mem _ cm_90) dX7_goTo_12 ?_
    refine lv_iconst (v := 1) cx.1 cx.2.1 dX7_goTo_15 (by decide) ?_
    refine lv_isub cx.1 cx.2.1 dX7_goTo_16 ?_
    refine lv_iload_n cx.1 cx.2.1 dX7_goTo_17 rfl (lv_at hl 1 rfl) ?_
    obtain ⟨σ2, e_σ2, h⟩ := md_ob h
    refine cd_sI (f := 225) hj cx hw (by decide) (show _ < 8 by omega) rfl e_σ2 dX7_goTo_18 (fun H locs hw => ?_)
    exact hp_vret cx hw ((cd_ret hj h).2) dX7_goTo_19
set_option maxHeartbeats 4000000 in
set_option maxRecDepth 100000 in
theorem kc_X7_leave (l : Launch) (D : va_G) (cA : Nat → ClassId) (E : hp_N) (sz : Nat) (ad : Nat → Nat → Nat) (ca0 : Nat → Nat) (hj : cd_inj ad ca0) (oq sgq sgv : Nat) (hE : cd_E E oq sgq sgv) (n : Nat) (σ0 : cd_S) (a0 : Nat) (hb_a0 : a0 < 8) (p : (Int32 × cd_S)) (h : f_X7_leave n σ0 a0 = some p) : Met l yX7_leave (Cond.code yX7_leave cX7_leave 1 none :: v_CLS) ({ frames := 1, cells := 0, slots := 0, locals := 21 }) (hp_Pc D vwCl (hp_Tl cA) E sz (cd_pic cA ad ca0 σ0) [.ref (ad 7 a0)]) (hp_Qv D vwCl (hp_Tl cA) sz (cd_pic cA ad ca0 σ0) (fun u => ∃ ca1, cd_inj ad ca1 ∧ u = cd_pic cA ad ca1 p.2)) 0 0 (hp_A (cd_pic cA ad ca0 σ0) sz) := by
  refine hp_ofW (cc := cX7_leave) (maxL := 1) (ret := none) (by decide) rfl (Nat.le_of_ble_eq_true rfl) ?_
  intro pp ee ss mm bb mt cd ls cx hsz hw hl
  have hl : lv_has ls 1 [(0, .ref (ad 7 a0))] := hl
  refine lv_aload_n cx.1 cx.2.1 dX7_leave_0 rfl (lv_at hl 0 rfl) ?_
  refine cd_gI (o := 7) (k := 8) (f := 232) hj cx hw hic7 rfl ⟨by decide, rfl, by decide, rfl⟩ rfl (show _ < 8 by omega) (List.mem_cons_of_mem _ cm_90) dX7_leave_1 ?_
  refine lv_if_le (tgt := 42) cx.1 cx.2.1 dX7_leave_4 (by decide) (fun c4 => ?_) (fun c4 => ?_)
  · have h := md_ip c4 h
    exact hp_vret cx hw ((cd_ret hj h).2) dX7_leave_42
  · have h := md_in c4 h
    refine lv_aload_n cx.1 cx.2.1 dX7_leave_7 rfl (lv_at hl 0 rfl) ?_
    refine cd_gI (o := 7) (k := 8) (f := 232) hj cx hw hic7 rfl ⟨by decide, rfl, by decide, rfl⟩ rfl (show _ < 8 by omega) (List.mem_cons_of_mem _ cm_90) dX7_leave_8 ?_
    refine lv_bipush (v := 60) cx.1 cx.2.1 dX7_leave_11 (by decide) ?_
    refine lv_icmp_gt (tgt := 42) cx.1 cx.2.1 dX7_leave_13 (by decide) (fun c13 => ?_) (fun c13 => ?_)
    · have h := md_ip c13 h
      exact hp_vret cx hw ((cd_ret hj h).2) dX7_leave_42
    · have h := md_in c13 h
      refine lv_aload_n cx.1 cx.2.1 dX7_leave_16 rfl (lv_at hl 0 rfl) ?_
      refine lv_dup cx.1 cx.2.1 dX7_leave_17 rfl ?_
      refine cd_gI (o := 7) (k := 8) (f := 232) hj cx hw hic7 rfl ⟨by decide, rfl, by decide, rfl⟩ rfl (show _ < 8 by omega) (List.mem_cons_of_mem _ cm_90) dX7_leave_18 ?_
      refine lv_iconst (v := 1) cx.1 cx.2.1 dX7_leave_21 (by decide) ?_
      refine lv_isub cx.1 cx.2.1 dX7_leave_22 ?_
      obtain ⟨σ1, e_σ1, h⟩ := md_ob h
      refine cd_pI (o := 7) (k := 8) (f := 232) hj cx hw hic7 rfl ⟨by decide, rfl, by decide, rfl⟩ tyX7_ok nmX7 rfl (show _ < 8 by omega) rfl (List.mem_cons_of_mem _ cm_90) rfl e_σ1 dX7_leave_23 (fun H locs hw => ?_)
      refine lv_aload_n cx.1 cx.2.1 dX7_leave_26 rfl (lv_at hl 0 rfl) ?_
      refine cd_gO (o2 := 6) (e2 := (9 + 1 * a0)) (o := 7) (k := 6) (f := 230) hj cx hw hic7 rfl ⟨by decide, rfl, by decide, rfl⟩ rfl (show _ < 8 by omega) ⟨rfl, rfl⟩ (List.mem_cons_of_mem _ cm_109) dX7_leave_27 ?_
      refine lv_aload_n cx.1 cx.2.1 dX7_leave_30 rfl (lv_at hl 0 rfl) ?_
      refine cd_gA (o := 7) (k := 3) (f := 227) hj cx hw hic7 rfl ⟨by decide, rfl, by decide, rfl⟩ rfl (show _ < 8 by omega) (List.mem_cons_of_mem _ cm_105) dX7_leave_31 ?_
      refine lv_aload_n cx.1 cx.2.1 dX7_leave_34 rfl (lv_at hl 0 rfl) ?_
      refine cd_gI (o := 7) (k := 8) (f := 232) hj cx hw hic7 rfl ⟨by decide, rfl, by decide, rfl⟩ rfl (show _ < 8 by omega) (List.mem_cons_of_mem _ cm_90) dX7_leave_35 ?_
      obtain ⟨v2, e_v2, h⟩ := md_ob h
      refine cd_lI (f := 227) hj cx hw (by decide) (show _ < 8 by omega) rfl e_v2 dX7_leave_38 ?_
      obtain ⟨p3, e_p3, h⟩ := md_ob h
      refine hp_callVv (As := [.int v2]) (rest := []) cx hw (kc_X6_cut l D cA E _ ad _ hj oq sgq sgv hE n σ1 ((9 + 1 * a0)) v2 (show _ < 197 by omega) p3 e_p3) (cwV 1 cx.2.2.2.2.2.1 (cd_giV cm_190 cm_3 cm_4 cm_5 cm_6) rfl rfl rfl hdc_X6_cut ⟨Nat.le_of_ble_eq_true rfl, Nat.le_of_ble_eq_true rfl⟩) (cd_atO hj (by decide) (show _ < 197 by omega)) rfl rfl hl.1 rfl (Nat.le_of_ble_eq_true rfl) dX7_leave_39 ⟨Nat.le_refl _, Nat.le_refl _⟩ (fun u H locs hp hw => ?_)
      obtain ⟨ca, hj, rfl⟩ := hp
      exact hp_vret cx hw ((cd_ret hj h).2) dX7_leave_42
set_option maxHeartbeats 4000000 in
set_option maxRecDepth 100000 in
theorem kc_X1_raise (l : Launch) (D : va_G) (cA : Nat → ClassId) (E : hp_N) (sz : Nat) (ad : Nat → Nat → Nat) (ca0 : Nat → Nat) (hj : cd_inj ad ca0) (oq sgq sgv : Nat) (hE : cd_E E oq sgq sgv) (n : Nat) (σ0 : cd_S) (b0 : cd_B) (a1 : Nat) (hb_a1 : a1 < 8) (p : (Int32 × cd_S × cd_B)) (h : f_X1_raise n σ0 b0 a1 = some p) : (p.2.2.1 ≤ b0.1 ∧ p.2.2.2 ≤ b0.2) ∧ Met l yX1_raise (Cond.code yX1_raise cX1_raise 5 (some .int) :: v_CLS) ({ frames := 5, cells := b0.1 - p.2.2.1, slots := b0.2 - p.2.2.2, locals := 136 }) (hp_Pc D vwCl (hp_Tl cA) E sz (cd_pic cA ad ca0 σ0) [.ref (ad 1 0), .ref (ad 7 a1)]) (hp_Qi D vwCl (hp_Tl cA) sz (cd_pic cA ad ca0 σ0) (fun r u => r = p.1 ∧ ∃ ca1, cd_inj ad ca1 ∧ u = cd_pic cA ad ca1 p.2.1)) (b0.1 - p.2.2.1) (b0.2 - p.2.2.2) (hp_A (cd_pic cA ad ca0 σ0) sz) := by
  obtain ⟨hm0, hn0, h⟩ := cd_cks h
  have hM0 : p.2.2.1 ≤ b0.1 ∧ p.2.2.2 ≤ b0.2 := ⟨hm0, hn0⟩
  refine ⟨hM0, ?_⟩
  refine hp_ofW (cc := cX1_raise) (maxL := 5) (ret := (some .int)) (by decide) rfl (Nat.le_of_ble_eq_true rfl) ?_
  intro pp ee ss mm bb mt cd ls cx hsz hw hl
  have hl : lv_has ls 5 [(0, .ref (ad 1 0)), (1, .ref (ad 7 a1))] := hl
  refine W.widen (k := b0.1 - b0.1) (n := b0.2 - b0.2) (Nat.zero_le _) (Nat.zero_le _) ?_
  refine lv_aload_n cx.1 cx.2.1 dX1_raise_0 rfl (lv_at hl 1 rfl) ?_
  refine cd_gI (o := 7) (k := 13) (f := 237) hj cx hw hic7 rfl ⟨by decide, rfl, by decide, rfl⟩ rfl (show _ < 8 by omega) (List.mem_cons_of_mem _ cm_75) dX1_raise_1 ?_
  refine lv_istore_n (lv' := [(2, .int (cI σ0 237 a1)), (0, .ref (ad 1 0)), (1, .ref (ad 7 a1))]) cx.1 cx.2.1 dX1_raise_4 rfl hl (by decide) rfl (fun ls hl => ?_)
  refine lv_iconst (v := 0) cx.1 cx.2.1 dX1_raise_5 (by decide) ?_
  refine lv_istore_n (lv' := [(3, .int 0), (2, .int (cI σ0 237 a1)), (0, .ref (ad 1 0)), (1, .ref (ad 7 a1))]) cx.1 cx.2.1 dX1_raise_6 rfl hl (by decide) rfl (fun ls hl => ?_)
  have L7 : ∀ (j : Nat) (ca : Nat → Nat) (hj : cd_inj ad ca) (σ : cd_S) (b : cd_B) (l2 : Int32) (l3 : Int32) (q : ((Int32 × cd_S × cd_B) ⊕ (cd_S × cd_B × Int32))) (H : Heap) (locs : List Loc) (ls : Array Slot), b.1 ≤ b0.1 → b.2 ≤ b0.2 → p.2.2.1 ≤ b.1 → p.2.2.2 ≤ b.2 → p.2.2.1 ≤ (Sum.elim (fun (q : (Int32 × cd_S × cd_B)) => q.2.2) (fun (q : cd_S × cd_B × Int32) => q.2.1) q).1 → p.2.2.2 ≤ (Sum.elim (fun (q : (Int32 × cd_S × cd_B)) => q.2.2) (fun (q : cd_S × cd_B × Int32) => q.2.1) q).2 → f_X1_raise_L7 n a1 l2 j σ b l3 = some q → hp_w D vwCl (hp_Tl cA) E (hp_A (cd_pic cA ad ca0 σ0) sz) ss H locs (cd_pic cA ad ca σ) → lv_has ls 5 [(0, .ref (ad 1 0)), (1, .ref (ad 7 a1)), (2, .int l2), (3, .int l3)] → (∀ t, q = Sum.inr t → (∀ (ca : Nat → Nat) (hj : cd_inj ad ca) (H : Heap) (locs : List Loc) (ls : Array Slot), t.2.1.1 ≤ b0.1 → t.2.1.2 ≤ b0.2 → hp_w D vwCl (hp_Tl cA) E (hp_A (cd_pic cA ad ca0 σ0) sz) ss H locs (cd_pic cA ad ca t.1) → lv_has ls 5 [(0, .ref (ad 1 0)), (1, .ref (ad 7 a1)), (2, .int l2)] → W pp l ee ({ frames := 5, cells := b0.1 - p.2.2.1, slots := b0.2 - p.2.2.2, locals := 136 }) ss mm [.ref (ad 1 0), .ref (ad 7 a1)].toArray bb mt cd H locs (b0.1 - t.2.1.1) (b0.2 - t.2.1.2) (MQ bb (hp_Qi D vwCl (hp_Tl cA) sz (cd_pic cA ad ca0 σ0) (fun r u => r = p.1 ∧ ∃ ca1, cd_inj ad ca1 ∧ u = cd_pic cA ad ca1 p.2.1)) [.ref (ad 1 0), .ref (ad 7 a1)].toArray ss (b0.1 - p.2.2.1) (b0.2 - p.2.2.2) (hp_A (cd_pic cA ad ca0 σ0) sz)) (F0 mm 58 ls []))) → (∀ r, q = Sum.inl r → r = p) → W pp l ee ({ frames := 5, cells := b0.1 - p.2.2.1, slots := b0.2 - p.2.2.2, locals := 136 }) ss mm [.ref (ad 1 0), .ref (ad 7 a1)].toArray bb mt cd H locs (b0.1 - b.1) (b0.2 - b.2) (MQ bb (hp_Qi D vwCl (hp_Tl cA) sz (cd_pic cA ad ca0 σ0) (fun r u => r = p.1 ∧ ∃ ca1, cd_inj ad ca1 ∧ u = cd_pic cA ad ca1 p.2.1)) [.ref (ad 1 0), .ref (ad 7 a1)].toArray ss (b0.1 - p.2.2.1) (b0.2 - p.2.2.2) (hp_A (cd_pic cA ad ca0 σ0) sz)) (F0 mm 7 ls []) := by
    intro j
    induction j with
    | zero => intro ca hj σ b l2 l3 q H locs ls hb1 hb2 hf1 hf2 hq1 hq2 h; exact nomatch h
    | succ j ih =>
      intro ca hj σ b l2 l3 q H locs ls hb1 hb2 hf1 hf2 hq1 hq2 h hw hl K KR
      unfold f_X1_raise_L7 at h
      refine lv_iload_n cx.1 cx.2.1 dX1_raise_7 rfl (lv_at hl 3 rfl) ?_
      refine lv_bipush (v := 60) cx.1 cx.2.1 dX1_raise_8 (by decide) ?_
      refine lv_icmp_gt (tgt := 58) cx.1 cx.2.1 dX1_raise_10 (by decide) (fun c10 => ?_) (fun c10 => ?_)
      · have h := md_ip c10 h
        exact K _ (Option.some.inj h).symm _ hj _ _ _ (by (try dsimp only); omega) (by (try dsimp only); omega) hw (lv_sub hl [0, 1, 2] rfl)
      · have h := md_in c10 h
        refine lv_aload_n cx.1 cx.2.1 dX1_raise_13 rfl (lv_at hl 1 rfl) ?_
        refine cd_gI (o := 7) (k := 8) (f := 232) hj cx hw hic7 rfl ⟨by decide, rfl, by decide, rfl⟩ rfl (show _ < 8 by omega) (List.mem_cons_of_mem _ cm_121) dX1_raise_14 ?_
        refine lv_if_le (tgt := 58) cx.1 cx.2.1 dX1_raise_17 (by decide) (fun c17 => ?_) (fun c17 => ?_)
        · have h := md_ip c17 h
          exact K _ (Option.some.inj h).symm _ hj _ _ _ (by (try dsimp only); omega) (by (try dsimp only); omega) hw (lv_sub hl [0, 1, 2] rfl)
        · have h := md_in c17 h
          refine lv_aload_n cx.1 cx.2.1 dX1_raise_20 rfl (lv_at hl 1 rfl) ?_
          obtain ⟨p1, e_p1, h⟩ := md_ob h
          refine hp_callVi (As := []) (rest := []) cx hw (kc_X7_dropToTry l D cA E _ ad _ hj oq sgq sgv hE n σ a1 (show _ < 8 by omega) p1 e_p1) (cwV 0 cx.2.2.2.2.2.1 (cd_giV cm_247 cm_248 cm_249 cm_94 cm_250) rfl rfl rfl hdc_X7_dropToTry ⟨Nat.le_of_ble_eq_true rfl, Nat.le_of_ble_eq_true rfl⟩) (cd_atO hj (by decide) (show _ < 8 by omega)) rfl rfl hl.1 rfl (Nat.le_of_ble_eq_true rfl) dX1_raise_21 ⟨by (try dsimp only); omega, by (try dsimp only); omega⟩ (fun r u H locs hp hw => ?_)
          obtain ⟨rfl, ca, hj, rfl⟩ := hp
          refine lv_istore (lv' := [(4, .int p1.1), (0, .ref (ad 1 0)), (1, .ref (ad 7 a1)), (2, .int l2), (3, .int l3)]) cx.1 cx.2.1 dX1_raise_24 hl (by decide) rfl (fun ls hl => ?_)
          refine lv_iload cx.1 cx.2.1 dX1_raise_26 (lv_at hl 0 rfl) ?_
          refine lv_iconst (v := (-1)) cx.1 cx.2.1 dX1_raise_28 (by decide) ?_
          refine lv_icmp_eq (tgt := 48) cx.1 cx.2.1 dX1_raise_29 (by decide) (fun c29 => ?_) (fun c29 => ?_)
          · have h := md_ip c29 h
            refine lv_aload_n cx.1 cx.2.1 dX1_raise_48 rfl (lv_at hl 2 rfl) ?_
            obtain ⟨p2, e_p2, h⟩ := md_ob h
            refine hp_callVv (As := []) (rest := []) cx hw (kc_X7_leave l D cA E _ ad _ hj oq sgq sgv hE n p1.2 a1 (show _ < 8 by omega) p2 e_p2) (cwV 0 cx.2.2.2.2.2.1 (cd_giV cm_251 cm_252 cm_253 cm_94 cm_254) rfl rfl rfl hdc_X7_leave ⟨Nat.le_of_ble_eq_true rfl, Nat.le_of_ble_eq_true rfl⟩) (cd_atO hj (by decide) (show _ < 8 by omega)) rfl rfl hl.1 rfl (Nat.le_of_ble_eq_true rfl) dX1_raise_49 ⟨by (try dsimp only); omega, by (try dsimp only); omega⟩ (fun u H locs hp hw => ?_)
            obtain ⟨ca, hj, rfl⟩ := hp
            refine lv_iinc (v := (l3 + 1)) (lv' := [(3, .int (l3 + 1)), (4, .int p1.1), (0, .ref (ad 1 0)), (1, .ref (ad 7 a1)), (2, .int l2)]) cx.1 cx.2.1 dX1_raise_52 hl (k := 4) rfl rfl (by decide) rfl (fun ls hl => ?_)
            refine lv_goto (tgt := 7) cx.1 cx.2.1 dX1_raise_55 (by decide) ?_
            exact ih _ hj p2.2 b l2 ((l3 + 1)) q _ _ _ (by omega) (by omega) (by omega) (by omega) hq1 hq2 h hw (lv_sub hl [2, 3, 4, 0] rfl) K KR
          · have h := md_in c29 h
            refine lv_aload_n cx.1 cx.2.1 dX1_raise_32 rfl (lv_at hl 2 rfl) ?_
            refine lv_iload cx.1 cx.2.1 dX1_raise_33 (lv_at hl 0 rfl) ?_
            obtain ⟨p3, e_p3, h⟩ := md_ob h
            refine hp_callVv (As := [.int p1.1]) (rest := []) cx hw (kc_X7_goTo l D cA E _ ad _ hj oq sgq sgv hE n p1.2 a1 (p1.1) (show _ < 8 by omega) p3 e_p3) (cwV 1 cx.2.2.2.2.2.1 (cd_giV cm_255 cm_256 cm_257 cm_94 cm_258) rfl rfl rfl hdc_X7_goTo ⟨Nat.le_of_ble_eq_true rfl, Nat.le_of_ble_eq_true rfl⟩) (cd_atO hj (by decide) (show _ < 8 by omega)) rfl rfl hl.1 rfl (Nat.le_of_ble_eq_true rfl) dX1_raise_35 ⟨by (try dsimp only); omega, by (try dsimp only); omega⟩ (fun u H locs hp hw => ?_)
            obtain ⟨ca, hj, rfl⟩ := hp
            refine lv_aload_n cx.1 cx.2.1 dX1_raise_38 rfl (lv_at hl 2 rfl) ?_
            refine lv_iconst (v := 0) cx.1 cx.2.1 dX1_raise_39 (by decide) ?_
            refine lv_iload_n cx.1 cx.2.1 dX1_raise_40 rfl (lv_at hl 3 rfl) ?_
            obtain ⟨p4, e_p4, h⟩ := md_ob h
            refine hp_callSl (As := [.int 0, .int l2]) (rest := [.ref (ad 7 a1)]) cx hw (kc_X1_valueOf l D cA E _ ad _ hj oq sgq sgv hE n p3.2 (0 : Int32) l2 p4 e_p4) (cwS 2 cx.2.2.2.2.2.1 (cd_giS cm_154 cm_155 cm_130 cm_156) rfl rfl rfl hdc_X1_valueOf ⟨Nat.le_of_ble_eq_true rfl, Nat.le_of_ble_eq_true rfl⟩) rfl hl.1 rfl (Nat.le_of_ble_eq_true rfl) dX1_raise_41 ⟨by (try dsimp only); omega, by (try dsimp only); omega⟩ (fun r u H locs hp hw => ?_)
            obtain ⟨rfl, ca, hj, rfl⟩ := hp
            obtain ⟨p5, e_p5, h⟩ := md_ob h
            obtain ⟨hm6, hn6, h⟩ := cd_cks h
            have hM6 : p.2.2.1 ≤ p5.2.2.1 ∧ p.2.2.2 ≤ p5.2.2.2 := ⟨Nat.le_trans hq1 hm6, Nat.le_trans hq2 hn6⟩
            have hle5 := (kc_X1_push l D cA E sz ad _ hj oq sgq sgv hE n p4.2 b a1 (p4.1) (show _ < 8 by omega) p5 e_p5).1
            refine hp_callSi (As := [.ref (ad 7 a1), .long p4.1]) (rest := []) cx hw ((kc_X1_push l D cA E _ ad _ hj oq sgq sgv hE n p4.2 b a1 (p4.1) (show _ < 8 by omega) p5 e_p5).2) (cwS 2 cx.2.2.2.2.2.1 (cd_giS cm_157 cm_158 cm_130 cm_159) rfl rfl rfl hdc_X1_push ⟨Nat.le_of_ble_eq_true rfl, Nat.le_of_ble_eq_true rfl⟩) rfl hl.1 rfl (Nat.le_of_ble_eq_true rfl) dX1_raise_44 ⟨by (try dsimp only); omega, by (try dsimp only); omega⟩ (fun r u H locs hp hw => ?_)
            obtain ⟨rfl, ca, hj, rfl⟩ := hp
            refine W.widen (k := b0.1 - p5.2.2.1) (n := b0.2 - p5.2.2.2) (by omega) (by omega) ?_
            exact hp_iret cx hw (cd_retb hj (congrArg some (KR _ (Option.some.inj h).symm))) dX1_raise_47 (cd_le1 (congrArg some (KR _ (Option.some.inj h).symm))) (cd_le2 (congrArg some (KR _ (Option.some.inj h).symm)))
  obtain ⟨q7, e_q7, h⟩ := md_ob h
  obtain ⟨hm8, hn8, h⟩ := cd_cks h
  have hM8 : p.2.2.1 ≤ (Sum.elim (fun (q : (Int32 × cd_S × cd_B)) => q.2.2) (fun (q : cd_S × cd_B × Int32) => q.2.1) q7).1 ∧ p.2.2.2 ≤ (Sum.elim (fun (q : (Int32 × cd_S × cd_B)) => q.2.2) (fun (q : cd_S × cd_B × Int32) => q.2.1) q7).2 := ⟨hm8, hn8⟩
  refine L7 n _ hj σ0 b0 ((cI σ0 237 a1)) 0 q7 _ _ _ (by omega) (by omega) (by omega) (by omega) hM8.1 hM8.2 e_q7 hw (lv_sub hl [2, 3, 1, 0] rfl) (fun t7 hq7 ca hj H locs ls hb1 hb2 hw hl => ?_) (fun r hr => by subst hr; exact Option.some.inj h)
  subst hq7
  have h := md_inr h
  have hS8 : p.2.2.1 ≤ t7.2.1.1 ∧ p.2.2.2 ≤ t7.2.1.2 := hM8
  refine lv_aload_n cx.1 cx.2.1 dX1_raise_58 rfl (lv_at hl 1 rfl) ?_
  refine lv_iconst (v := 2) cx.1 cx.2.1 dX1_raise_59 (by decide) ?_
  refine lv_iconst (v := 0) cx.1 cx.2.1 dX1_raise_60 (by decide) ?_
  refine lv_iload_n cx.1 cx.2.1 dX1_raise_61 rfl (lv_at hl 2 rfl) ?_
  obtain ⟨p9, e_p9, h⟩ := md_ob h
  refine hp_callSl (As := [.int 0, .int (cI σ0 237 a1)]) (rest := [.int 2, .ref (ad 7 a1)]) cx hw (kc_X1_valueOf l D cA E _ ad _ hj oq sgq sgv hE n t7.1 (0 : Int32) ((cI σ0 237 a1)) p9 e_p9) (cwS 2 cx.2.2.2.2.2.1 (cd_giS cm_154 cm_155 cm_130 cm_156) rfl rfl rfl hdc_X1_valueOf ⟨Nat.le_of_ble_eq_true rfl, Nat.le_of_ble_eq_true rfl⟩) rfl hl.1 rfl (Nat.le_of_ble_eq_true rfl) dX1_raise_62 ⟨by (try dsimp only); omega, by (try dsimp only); omega⟩ (fun r u H locs hp hw => ?_)
  obtain ⟨rfl, ca, hj, rfl⟩ := hp
  obtain ⟨p10, e_p10, h⟩ := md_ob h
  refine hp_callVv (As := [.int 2, .long p9.1]) (rest := []) cx hw (kc_X7_finish l D cA E _ ad _ hj oq sgq sgv hE n p9.2 a1 (2 : Int32) (p9.1) (show _ < 8 by omega) p10 e_p10) (cwV 2 cx.2.2.2.2.2.1 (cd_giV cm_259 cm_260 cm_261 cm_94 cm_262) rfl rfl rfl hdc_X7_finish ⟨Nat.le_of_ble_eq_true rfl, Nat.le_of_ble_eq_true rfl⟩) (cd_atO hj (by decide) (show _ < 8 by omega)) rfl rfl hl.1 rfl (Nat.le_of_ble_eq_true rfl) dX1_raise_65 ⟨by (try dsimp only); omega, by (try dsimp only); omega⟩ (fun u H locs hp hw => ?_)
  obtain ⟨ca, hj, rfl⟩ := hp
  refine lv_aload_n cx.1 cx.2.1 dX1_raise_68 rfl (lv_at hl 0 rfl) ?_
  refine lv_aload_n cx.1 cx.2.1 dX1_raise_69 rfl (lv_at hl 1 rfl) ?_
  refine lv_iconst (v := 2) cx.1 cx.2.1 dX1_raise_70 (by decide) ?_
  refine lv_iload_n cx.1 cx.2.1 dX1_raise_71 rfl (lv_at hl 2 rfl) ?_
  refine lv_iconst (v := (-1)) cx.1 cx.2.1 dX1_raise_72 (by decide) ?_
  refine lv_iconst (v := (-1)) cx.1 cx.2.1 dX1_raise_73 (by decide) ?_
  obtain ⟨p11, e_p11, h⟩ := md_ob h
  obtain ⟨hm12, hn12, h⟩ := cd_cks h
  have hM12 : p.2.2.1 ≤ p11.2.2.1 ∧ p.2.2.2 ≤ p11.2.2.2 := ⟨hm12, hn12⟩
  have hle11 := (kc_X1_record l D cA E sz ad _ hj oq sgq sgv hE n p10.2 (t7.2.1) a1 (2 : Int32) ((cI σ0 237 a1)) ((-1) : Int32) ((-1) : Int32) (show _ < 8 by omega) p11 e_p11).1
  refine hp_callVv (As := [.ref (ad 7 a1), .int 2, .int (cI σ0 237 a1), .int (-1), .int (-1)]) (rest := []) cx hw ((kc_X1_record l D cA E _ ad _ hj oq sgq sgv hE n p10.2 (t7.2.1) a1 (2 : Int32) ((cI σ0 237 a1)) ((-1) : Int32) ((-1) : Int32) (show _ < 8 by omega) p11 e_p11).2) (cwV 5 cx.2.2.2.2.2.1 (cd_giV cm_263 cm_264 cm_265 cm_130 cm_266) rfl rfl rfl hdc_X1_record ⟨Nat.le_of_ble_eq_true rfl, Nat.le_of_ble_eq_true rfl⟩) (cd_atO hj (by decide) (by decide)) rfl rfl hl.1 rfl (Nat.le_of_ble_eq_true rfl) dX1_raise_74 ⟨by (try dsimp only); omega, by (try dsimp only); omega⟩ (fun u H locs hp hw => ?_)
  obtain ⟨ca, hj, rfl⟩ := hp
  refine W.widen (k := b0.1 - p11.2.2.1) (n := b0.2 - p11.2.2.2) (by omega) (by omega) ?_
  refine lv_iconst (v := 1) cx.1 cx.2.1 dX1_raise_77 (by decide) ?_
  exact hp_iret cx hw (cd_retb hj h) dX1_raise_78 (cd_le1 h) (cd_le2 h)
set_option maxHeartbeats 4000000 in
set_option maxRecDepth 100000 in
theorem kc_X1_call (l : Launch) (D : va_G) (cA : Nat → ClassId) (E : hp_N) (sz : Nat) (ad : Nat → Nat → Nat) (ca0 : Nat → Nat) (hj : cd_inj ad ca0) (oq sgq sgv : Nat) (hE : cd_E E oq sgq sgv) (n : Nat) (σ0 : cd_S) (a1 : Nat) (a2 : Nat) (a3 : Int32) (a4 : Int32) (a5 : Int32) (hb_a1 : a1 < 8) (hb_a2 : a2 < 60) (p : (Int32 × cd_S)) (h : f_X1_call n σ0 a1 a2 a3 a4 a5 = some p) : Met l yX1_call (Cond.code yX1_call cX1_call 6 (some .int) :: v_CLS) ({ frames := 1, cells := 0, slots := 0, locals := 24 }) (hp_Pc D vwCl (hp_Tl cA) E sz (cd_pic cA ad ca0 σ0) [.ref (ad 1 0), .ref (ad 7 a1), .ref (ad 9 a2), .int a3, .int a4, .int a5]) (hp_Qi D vwCl (hp_Tl cA) sz (cd_pic cA ad ca0 σ0) (fun r u => r = p.1 ∧ ∃ ca1, cd_inj ad ca1 ∧ u = cd_pic cA ad ca1 p.2)) 0 0 (hp_A (cd_pic cA ad ca0 σ0) sz) := by
  refine hp_ofW (cc := cX1_call) (maxL := 6) (ret := (some .int)) (by decide) rfl (Nat.le_of_ble_eq_true rfl) ?_
  intro pp ee ss mm bb mt cd ls cx hsz hw hl
  have hl : lv_has ls 6 [(0, .ref (ad 1 0)), (1, .ref (ad 7 a1)), (2, .ref (ad 9 a2)), (3, .int a3), (4, .int a4), (5, .int a5)] := hl
  refine lv_aload_n cx.1 cx.2.1 dX1_call_0 rfl (lv_at hl 0 rfl) ?_
  refine lv_aload_n cx.1 cx.2.1 dX1_call_1 rfl (lv_at hl 1 rfl) ?_
  obtain ⟨σ1, e_σ1, h⟩ := md_ob h
  refine cd_pP (u := a1) (o2 := 7) (o := 1) (k := 18) (f := 50) hj cx hw hic1 rfl ⟨by decide, rfl, by decide, rfl⟩ tyX1_ok nmX1 rfl (by decide) rfl (List.mem_cons_of_mem _ cm_72) rfl rfl e_σ1 dX1_call_2 (fun H locs hw => ?_)
  refine lv_aload_n cx.1 cx.2.1 dX1_call_5 rfl (lv_at hl 1 rfl) ?_
  refine lv_aload_n cx.1 cx.2.1 dX1_call_6 rfl (lv_at hl 2 rfl) ?_
  refine lv_iload_n cx.1 cx.2.1 dX1_call_7 rfl (lv_at hl 3 rfl) ?_
  refine lv_iload cx.1 cx.2.1 dX1_call_8 (lv_at hl 4 rfl) ?_
  refine lv_iload cx.1 cx.2.1 dX1_call_10 (lv_at hl 5 rfl) ?_
  obtain ⟨p2, e_p2, h⟩ := md_ob h
  refine hp_callVv (As := [.ref (ad 9 a2), .int a3, .int a4, .int a5]) (rest := []) cx hw (kc_X7_call l D cA E _ ad _ hj oq sgq sgv hE n σ1 a1 a2 a3 a4 a5 (show _ < 8 by omega) (show _ < 60 by omega) p2 e_p2) (cwV 4 cx.2.2.2.2.2.1 (cd_giV cm_211 cm_212 cm_213 cm_94 cm_214) rfl rfl rfl hdc_X7_call ⟨Nat.le_of_ble_eq_true rfl, Nat.le_of_ble_eq_true rfl⟩) (cd_atO hj (by decide) (show _ < 8 by omega)) rfl rfl hl.1 rfl (Nat.le_of_ble_eq_true rfl) dX1_call_12 ⟨Nat.le_refl _, Nat.le_refl _⟩ (fun u H locs hp hw => ?_)
  obtain ⟨ca, hj, rfl⟩ := hp
  refine lv_iconst (v := 3) cx.1 cx.2.1 dX1_call_15 (by decide) ?_
  exact hp_iret cx hw (cd_ret hj h) dX1_call_16
set_option maxHeartbeats 4000000 in
set_option maxRecDepth 100000 in
theorem kc_X1_slotsOf (l : Launch) (D : va_G) (cA : Nat → ClassId) (E : hp_N) (sz : Nat) (ad : Nat → Nat → Nat) (ca0 : Nat → Nat) (hj : cd_inj ad ca0) (oq sgq sgv : Nat) (hE : cd_E E oq sgq sgv) (n : Nat) (σ0 : cd_S) (a1 : Int64) (p : (Int32 × cd_S)) (h : f_X1_slotsOf n σ0 a1 = some p) : Met l yX1_slotsOf (Cond.code yX1_slotsOf cX1_slotsOf 3 (some .int) :: v_CLS) ({ frames := 1, cells := 0, slots := 0, locals := 21 }) (hp_Pc D vwCl (hp_Tl cA) E sz (cd_pic cA ad ca0 σ0) [.ref (ad 1 0), .long a1]) (hp_Qi D vwCl (hp_Tl cA) sz (cd_pic cA ad ca0 σ0) (fun r u => r = p.1 ∧ ∃ ca1, cd_inj ad ca1 ∧ u = cd_pic cA ad ca1 p.2)) 0 0 (hp_A (cd_pic cA ad ca0 σ0) sz) := by
  refine hp_ofW (cc := cX1_slotsOf) (maxL := 3) (ret := (some .int)) (by decide) rfl (Nat.le_of_ble_eq_true rfl) ?_
  intro pp ee ss mm bb mt cd ls cx hsz hw hl
  have hl : lv_has ls 3 [(0, .ref (ad 1 0)), (1, .long a1)] := hl
  refine lv_aload_n cx.1 cx.2.1 dX1_slotsOf_0 rfl (lv_at hl 0 rfl) ?_
  refine cd_gO (o2 := 6) (e2 := 6) (o := 1) (k := 5) (f := 37) hj cx hw hic1 rfl ⟨by decide, rfl, by decide, rfl⟩ rfl (by decide) ⟨rfl, rfl⟩ (List.mem_cons_of_mem _ cm_161) dX1_slotsOf_1 ?_
  refine lv_lload_n cx.1 cx.2.1 dX1_slotsOf_4 rfl (lv_at hl 1 rfl) ?_
  refine lv_l2i (v := (a1.toInt32)) cx.1 cx.2.1 dX1_slotsOf_5 rfl ?_
  refine lv_iconst (v := 2) cx.1 cx.2.1 dX1_slotsOf_6 (by decide) ?_
  refine lv_imul cx.1 cx.2.1 dX1_slotsOf_7 ?_
  refine lv_iconst (v := 1) cx.1 cx.2.1 dX1_slotsOf_8 (by decide) ?_
  refine lv_iadd cx.1 cx.2.1 dX1_slotsOf_9 ?_
  obtain ⟨p1, e_p1, h⟩ := md_ob h
  refine hp_callVi (As := [.int (((a1.toInt32) * 2) + 1)]) (rest := []) cx hw (kc_X6_at l D cA E _ ad _ hj oq sgq sgv hE n σ0 6 ((((a1.toInt32) * 2) + 1)) (by decide) p1 e_p1) (cwV 1 cx.2.2.2.2.2.1 (cd_giV cm_267 cm_17 cm_18 cm_5 cm_19) rfl rfl rfl hdc_X6_at ⟨Nat.le_of_ble_eq_true rfl, Nat.le_of_ble_eq_true rfl⟩) (cd_atO hj (by decide) (by decide)) rfl rfl hl.1 rfl (Nat.le_of_ble_eq_true rfl) dX1_slotsOf_10 ⟨Nat.le_refl _, Nat.le_refl _⟩ (fun r u H locs hp hw => ?_)
  obtain ⟨rfl, ca, hj, rfl⟩ := hp
  exact hp_iret cx hw (cd_ret hj h) dX1_slotsOf_13
set_option maxHeartbeats 4000000 in
set_option maxRecDepth 100000 in
theorem kc_X1_pushCaptured (l : Launch) (D : va_G) (cA : Nat → ClassId) (E : hp_N) (sz : Nat) (ad : Nat → Nat → Nat) (ca0 : Nat → Nat) (hj : cd_inj ad ca0) (oq sgq sgv : Nat) (hE : cd_E E oq sgq sgv) (n : Nat) (σ0 : cd_S) (b0 : cd_B) (a1 : Nat) (a2 : Int64) (a4 : Nat) (hb_a1 : a1 < 8) (hb_a4 : a4 < 60) (p : (Int32 × cd_S × cd_B)) (h : f_X1_pushCaptured n σ0 b0 a1 a2 a4 = some p) : (p.2.2.1 ≤ b0.1 ∧ p.2.2.2 ≤ b0.2) ∧ Met l yX1_pushCaptured (Cond.code yX1_pushCaptured cX1_pushCaptured 6 none :: v_CLS) ({ frames := 5, cells := b0.1 - p.2.2.1, slots := b0.2 - p.2.2.2, locals := 133 }) (hp_Pc D vwCl (hp_Tl cA) E sz (cd_pic cA ad ca0 σ0) [.ref (ad 1 0), .ref (ad 7 a1), .long a2, .ref (ad 9 a4)]) (hp_Qv D vwCl (hp_Tl cA) sz (cd_pic cA ad ca0 σ0) (fun u => ∃ ca1, cd_inj ad ca1 ∧ u = cd_pic cA ad ca1 p.2.1)) (b0.1 - p.2.2.1) (b0.2 - p.2.2.2) (hp_A (cd_pic cA ad ca0 σ0) sz) := by
  obtain ⟨hm0, hn0, h⟩ := cd_cks h
  have hM0 : p.2.2.1 ≤ b0.1 ∧ p.2.2.2 ≤ b0.2 := ⟨hm0, hn0⟩
  refine ⟨hM0, ?_⟩
  refine hp_ofW (cc := cX1_pushCaptured) (maxL := 6) (ret := none) (by decide) rfl (Nat.le_of_ble_eq_true rfl) ?_
  intro pp ee ss mm bb mt cd ls cx hsz hw hl
  have hl : lv_has ls 6 [(0, .ref (ad 1 0)), (1, .ref (ad 7 a1)), (2, .long a2), (4, .ref (ad 9 a4))] := hl
  refine W.widen (k := b0.1 - b0.1) (n := b0.2 - b0.2) (Nat.zero_le _) (Nat.zero_le _) ?_
  refine lv_iconst (v := 0) cx.1 cx.2.1 dX1_pushCaptured_0 (by decide) ?_
  refine lv_istore (lv' := [(5, .int 0), (0, .ref (ad 1 0)), (1, .ref (ad 7 a1)), (2, .long a2), (4, .ref (ad 9 a4))]) cx.1 cx.2.1 dX1_pushCaptured_1 hl (by decide) rfl (fun ls hl => ?_)
  have L3 : ∀ (j : Nat) (ca : Nat → Nat) (hj : cd_inj ad ca) (σ : cd_S) (b : cd_B) (l2 : Int64) (l5 : Int32) (q : (cd_S × cd_B × Int32)) (H : Heap) (locs : List Loc) (ls : Array Slot), b.1 ≤ b0.1 → b.2 ≤ b0.2 → p.2.2.1 ≤ b.1 → p.2.2.2 ≤ b.2 → p.2.2.1 ≤ q.2.1.1 → p.2.2.2 ≤ q.2.1.2 → f_X1_pushCaptured_L3 n a1 a4 l2 j σ b l5 = some q → hp_w D vwCl (hp_Tl cA) E (hp_A (cd_pic cA ad ca0 σ0) sz) ss H locs (cd_pic cA ad ca σ) → lv_has ls 6 [(0, .ref (ad 1 0)), (1, .ref (ad 7 a1)), (2, .long l2), (4, .ref (ad 9 a4)), (5, .int l5)] → (∀ (ca : Nat → Nat) (hj : cd_inj ad ca) (H : Heap) (locs : List Loc) (ls : Array Slot), q.2.1.1 ≤ b0.1 → q.2.1.2 ≤ b0.2 → hp_w D vwCl (hp_Tl cA) E (hp_A (cd_pic cA ad ca0 σ0) sz) ss H locs (cd_pic cA ad ca q.1) → lv_has ls 6 [] → W pp l ee ({ frames := 5, cells := b0.1 - p.2.2.1, slots := b0.2 - p.2.2.2, locals := 133 }) ss mm [.ref (ad 1 0), .ref (ad 7 a1), .long a2, .ref (ad 9 a4)].toArray bb mt cd H locs (b0.1 - q.2.1.1) (b0.2 - q.2.1.2) (MQ bb (hp_Qv D vwCl (hp_Tl cA) sz (cd_pic cA ad ca0 σ0) (fun u => ∃ ca1, cd_inj ad ca1 ∧ u = cd_pic cA ad ca1 p.2.1)) [.ref (ad 1 0), .ref (ad 7 a1), .long a2, .ref (ad 9 a4)].toArray ss (b0.1 - p.2.2.1) (b0.2 - p.2.2.2) (hp_A (cd_pic cA ad ca0 σ0) sz)) (F0 mm 39 ls [])) → W pp l ee ({ frames := 5, cells := b0.1 - p.2.2.1, slots := b0.2 - p.2.2.2, locals := 133 }) ss mm [.ref (ad 1 0), .ref (ad 7 a1), .long a2, .ref (ad 9 a4)].toArray bb mt cd H locs (b0.1 - b.1) (b0.2 - b.2) (MQ bb (hp_Qv D vwCl (hp_Tl cA) sz (cd_pic cA ad ca0 σ0) (fun u => ∃ ca1, cd_inj ad ca1 ∧ u = cd_pic cA ad ca1 p.2.1)) [.ref (ad 1 0), .ref (ad 7 a1), .long a2, .ref (ad 9 a4)].toArray ss (b0.1 - p.2.2.1) (b0.2 - p.2.2.2) (hp_A (cd_pic cA ad ca0 σ0) sz)) (F0 mm 3 ls []) := by
    intro j
    induction j with
    | zero => intro ca hj σ b l2 l5 q H locs ls hb1 hb2 hf1 hf2 hq1 hq2 h; exact nomatch h
    | succ j ih =>
      intro ca hj σ b l2 l5 q H locs ls hb1 hb2 hf1 hf2 hq1 hq2 h hw hl K
      unfold f_X1_pushCaptured_L3 at h
      refine lv_iload cx.1 cx.2.1 dX1_pushCaptured_3 (lv_at hl 4 rfl) ?_
      refine lv_aload cx.1 cx.2.1 dX1_pushCaptured_5 (lv_at hl 3 rfl) ?_
      refine cd_gI (o := 9) (k := 11) (f := 299) hj cx hw hic9 rfl ⟨by decide, rfl, by decide, rfl⟩ rfl (show _ < 60 by omega) (List.mem_cons_of_mem _ cm_268) dX1_pushCaptured_7 ?_
      refine lv_icmp_ge (tgt := 39) cx.1 cx.2.1 dX1_pushCaptured_10 (by decide) (fun c10 => ?_) (fun c10 => ?_)
      · have h := md_ip c10 h
        obtain rfl := Option.some.inj h
        exact K _ hj _ _ _ (by (try dsimp only); omega) (by (try dsimp only); omega) hw (lv_sub hl [] rfl)
      · have h := md_in c10 h
        refine lv_aload_n cx.1 cx.2.1 dX1_pushCaptured_13 rfl (lv_at hl 1 rfl) ?_
        refine lv_aload_n cx.1 cx.2.1 dX1_pushCaptured_14 rfl (lv_at hl 0 rfl) ?_
        refine cd_gO (o2 := 6) (e2 := 7) (o := 1) (k := 6) (f := 38) hj cx hw hic1 rfl ⟨by decide, rfl, by decide, rfl⟩ rfl (by decide) ⟨rfl, rfl⟩ (List.mem_cons_of_mem _ cm_162) dX1_pushCaptured_15 ?_
        refine lv_aload_n cx.1 cx.2.1 dX1_pushCaptured_18 rfl (lv_at hl 0 rfl) ?_
        refine lv_lload_n cx.1 cx.2.1 dX1_pushCaptured_19 rfl (lv_at hl 2 rfl) ?_
        obtain ⟨p1, e_p1, h⟩ := md_ob h
        refine hp_callVi (As := [.long l2]) (rest := [.ref (ad 6 7), .ref (ad 7 a1)]) cx hw (kc_X1_slotsOf l D cA E _ ad _ hj oq sgq sgv hE n σ l2 p1 e_p1) (cwV 1 cx.2.2.2.2.2.1 (cd_giV cm_269 cm_270 cm_271 cm_130 cm_272) rfl rfl rfl hdc_X1_slotsOf ⟨Nat.le_of_ble_eq_true rfl, Nat.le_of_ble_eq_true rfl⟩) (cd_atO hj (by decide) (by decide)) rfl rfl hl.1 rfl (Nat.le_of_ble_eq_true rfl) dX1_pushCaptured_20 ⟨by (try dsimp only); omega, by (try dsimp only); omega⟩ (fun r u H locs hp hw => ?_)
        obtain ⟨rfl, ca, hj, rfl⟩ := hp
        refine lv_iload cx.1 cx.2.1 dX1_pushCaptured_23 (lv_at hl 4 rfl) ?_
        refine lv_iadd cx.1 cx.2.1 dX1_pushCaptured_25 ?_
        obtain ⟨p2, e_p2, h⟩ := md_ob h
        refine hp_callVl (As := [.int (p1.1 + l5)]) (rest := [.ref (ad 7 a1)]) cx hw (kc_X6_get l D cA E _ ad _ hj oq sgq sgv hE n p1.2 7 ((p1.1 + l5)) (by decide) p2 e_p2) (cwV 1 cx.2.2.2.2.2.1 (cd_giV cm_273 cm_240 cm_241 cm_5 cm_242) rfl rfl rfl hdc_X6_get ⟨Nat.le_of_ble_eq_true rfl, Nat.le_of_ble_eq_true rfl⟩) (cd_atO hj (by decide) (by decide)) rfl rfl hl.1 rfl (Nat.le_of_ble_eq_true rfl) dX1_pushCaptured_26 ⟨by (try dsimp only); omega, by (try dsimp only); omega⟩ (fun r u H locs hp hw => ?_)
        obtain ⟨rfl, ca, hj, rfl⟩ := hp
        obtain ⟨p3, e_p3, h⟩ := md_ob h
        obtain ⟨hm4, hn4, h⟩ := cd_cks h
        have hM4 : p.2.2.1 ≤ p3.2.2.1 ∧ p.2.2.2 ≤ p3.2.2.2 := ⟨Nat.le_trans hq1 hm4, Nat.le_trans hq2 hn4⟩
        have hle3 := (kc_X1_push l D cA E sz ad _ hj oq sgq sgv hE n p2.2 b a1 (p2.1) (show _ < 8 by omega) p3 e_p3).1
        refine hp_callSi (As := [.ref (ad 7 a1), .long p2.1]) (rest := []) cx hw ((kc_X1_push l D cA E _ ad _ hj oq sgq sgv hE n p2.2 b a1 (p2.1) (show _ < 8 by omega) p3 e_p3).2) (cwS 2 cx.2.2.2.2.2.1 (cd_giS cm_157 cm_158 cm_130 cm_159) rfl rfl rfl hdc_X1_push ⟨Nat.le_of_ble_eq_true rfl, Nat.le_of_ble_eq_true rfl⟩) rfl hl.1 rfl (Nat.le_of_ble_eq_true rfl) dX1_pushCaptured_29 ⟨by (try dsimp only); omega, by (try dsimp only); omega⟩ (fun r u H locs hp hw => ?_)
        obtain ⟨rfl, ca, hj, rfl⟩ := hp
        refine W.widen (k := b0.1 - p3.2.2.1) (n := b0.2 - p3.2.2.2) (by omega) (by omega) ?_
        refine lv_pop cx.1 cx.2.1 dX1_pushCaptured_32 rfl ?_
        refine lv_iinc (v := (l5 + 1)) (lv' := [(5, .int (l5 + 1)), (0, .ref (ad 1 0)), (1, .ref (ad 7 a1)), (2, .long l2), (4, .ref (ad 9 a4))]) cx.1 cx.2.1 dX1_pushCaptured_33 hl (k := 4) rfl rfl (by decide) rfl (fun ls hl => ?_)
        refine lv_goto (tgt := 3) cx.1 cx.2.1 dX1_pushCaptured_36 (by decide) ?_
        exact ih _ hj p3.2.1 (p3.2.2) l2 ((l5 + 1)) q _ _ _ (by omega) (by omega) (by omega) (by omega) hq1 hq2 h hw (lv_sub hl [1, 2, 3, 4, 0] rfl) K
  obtain ⟨q5, e_q5, h⟩ := md_ob h
  obtain ⟨hm6, hn6, h⟩ := cd_cks h
  have hM6 : p.2.2.1 ≤ q5.2.1.1 ∧ p.2.2.2 ≤ q5.2.1.2 := ⟨hm6, hn6⟩
  refine L3 n _ hj σ0 b0 a2 0 q5 _ _ _ (by omega) (by omega) (by omega) (by omega) hM6.1 hM6.2 e_q5 hw (lv_sub hl [1, 2, 3, 4, 0] rfl) (fun ca hj H locs ls hb1 hb2 hw hl => ?_)
  exact hp_vret cx hw ((cd_retb hj h).2) dX1_pushCaptured_39 (cd_le1 h) (cd_le2 h)
set_option maxHeartbeats 4000000 in
set_option maxRecDepth 100000 in
theorem kc_X1_thingOf (l : Launch) (D : va_G) (cA : Nat → ClassId) (E : hp_N) (sz : Nat) (ad : Nat → Nat → Nat) (ca0 : Nat → Nat) (hj : cd_inj ad ca0) (oq sgq sgv : Nat) (hE : cd_E E oq sgq sgv) (n : Nat) (σ0 : cd_S) (a1 : Int64) (p : (Int32 × cd_S)) (h : f_X1_thingOf n σ0 a1 = some p) : Met l yX1_thingOf (Cond.code yX1_thingOf cX1_thingOf 3 (some .int) :: v_CLS) ({ frames := 1, cells := 0, slots := 0, locals := 21 }) (hp_Pc D vwCl (hp_Tl cA) E sz (cd_pic cA ad ca0 σ0) [.ref (ad 1 0), .long a1]) (hp_Qi D vwCl (hp_Tl cA) sz (cd_pic cA ad ca0 σ0) (fun r u => r = p.1 ∧ ∃ ca1, cd_inj ad ca1 ∧ u = cd_pic cA ad ca1 p.2)) 0 0 (hp_A (cd_pic cA ad ca0 σ0) sz) := by
  refine hp_ofW (cc := cX1_thingOf) (maxL := 3) (ret := (some .int)) (by decide) rfl (Nat.le_of_ble_eq_true rfl) ?_
  intro pp ee ss mm bb mt cd ls cx hsz hw hl
  have hl : lv_has ls 3 [(0, .ref (ad 1 0)), (1, .long a1)] := hl
  refine lv_aload_n cx.1 cx.2.1 dX1_thingOf_0 rfl (lv_at hl 0 rfl) ?_
  refine cd_gO (o2 := 6) (e2 := 6) (o := 1) (k := 5) (f := 37) hj cx hw hic1 rfl ⟨by decide, rfl, by decide, rfl⟩ rfl (by decide) ⟨rfl, rfl⟩ (List.mem_cons_of_mem _ cm_161) dX1_thingOf_1 ?_
  refine lv_lload_n cx.1 cx.2.1 dX1_thingOf_4 rfl (lv_at hl 1 rfl) ?_
  refine lv_l2i (v := (a1.toInt32)) cx.1 cx.2.1 dX1_thingOf_5 rfl ?_
  refine lv_iconst (v := 2) cx.1 cx.2.1 dX1_thingOf_6 (by decide) ?_
  refine lv_imul cx.1 cx.2.1 dX1_thingOf_7 ?_
  obtain ⟨p1, e_p1, h⟩ := md_ob h
  refine hp_callVi (As := [.int ((a1.toInt32) * 2)]) (rest := []) cx hw (kc_X6_at l D cA E _ ad _ hj oq sgq sgv hE n σ0 6 (((a1.toInt32) * 2)) (by decide) p1 e_p1) (cwV 1 cx.2.2.2.2.2.1 (cd_giV cm_267 cm_17 cm_18 cm_5 cm_19) rfl rfl rfl hdc_X6_at ⟨Nat.le_of_ble_eq_true rfl, Nat.le_of_ble_eq_true rfl⟩) (cd_atO hj (by decide) (by decide)) rfl rfl hl.1 rfl (Nat.le_of_ble_eq_true rfl) dX1_thingOf_8 ⟨Nat.le_refl _, Nat.le_refl _⟩ (fun r u H locs hp hw => ?_)
  obtain ⟨rfl, ca, hj, rfl⟩ := hp
  exact hp_iret cx hw (cd_ret hj h) dX1_thingOf_11
set_option maxHeartbeats 4000000 in
set_option maxRecDepth 100000 in
theorem kc_X2_unitAt (l : Launch) (D : va_G) (cA : Nat → ClassId) (E : hp_N) (sz : Nat) (ad : Nat → Nat → Nat) (ca0 : Nat → Nat) (hj : cd_inj ad ca0) (oq sgq sgv : Nat) (hE : cd_E E oq sgq sgv) (n : Nat) (σ0 : cd_S) (a1 : Int32) (p : (Nat × cd_S)) (h : f_X2_unitAt n σ0 a1 = some p) : Met l yX2_unitAt (Cond.code yX2_unitAt cX2_unitAt 2 (some (.object "WardenHouse$Unit")) :: v_CLS) ({ frames := 0, cells := 0, slots := 0, locals := 0 }) (hp_Pc D vwCl (hp_Tl cA) E sz (cd_pic cA ad ca0 σ0) [.ref (ad 2 0), .int a1]) (hp_Qr D vwCl (hp_Tl cA) sz (cd_pic cA ad ca0 σ0) (fun r u => (p.1 < 60 ∧ r = ad 9 p.1) ∧ ∃ ca1, cd_inj ad ca1 ∧ u = cd_pic cA ad ca1 p.2)) 0 0 (hp_A (cd_pic cA ad ca0 σ0) sz) := by
  refine hp_ofW (cc := cX2_unitAt) (maxL := 2) (ret := (some (.object "WardenHouse$Unit"))) (by decide) rfl (Nat.le_of_ble_eq_true rfl) ?_
  intro pp ee ss mm bb mt cd ls cx hsz hw hl
  have hl : lv_has ls 2 [(0, .ref (ad 2 0)), (1, .int a1)] := hl
  have J19 : ∀ (ca : Nat → Nat) (hj : cd_inj ad ca) (σ : cd_S) (t0 : Int32) (H : Heap) (locs : List Loc) (ls : Array Slot), f_X2_unitAt_J19 n σ t0 = some p → hp_w D vwCl (hp_Tl cA) E (hp_A (cd_pic cA ad ca0 σ0) sz) ss H locs (cd_pic cA ad ca σ) → lv_has ls 2 [] → W pp l ee ({ frames := 0, cells := 0, slots := 0, locals := 0 }) ss mm [.ref (ad 2 0), .int a1].toArray bb mt cd H locs 0 0 (MQ bb (hp_Qr D vwCl (hp_Tl cA) sz (cd_pic cA ad ca0 σ0) (fun r u => (p.1 < 60 ∧ r = ad 9 p.1) ∧ ∃ ca1, cd_inj ad ca1 ∧ u = cd_pic cA ad ca1 p.2)) [.ref (ad 2 0), .int a1].toArray ss 0 0 (hp_A (cd_pic cA ad ca0 σ0) sz)) (F0 mm 19 ls [.int t0, .ref (ad 165 0)]) := by
    intro ca hj σ t0 H locs ls h hw hl
    obtain ⟨u1, e_u1, h⟩ := md_ob h
    have hb_u1 : u1 < 60 := (cd_ldRs e_u1).2.2
    refine cd_lR (f := 65) (o2 := 9) hj cx hw (by decide) (by decide) rfl (by decide) rfl rfl e_u1 dX2_unitAt_19 ?_
    exact hp_aret cx hw (cd_ra (cd_ret hj h) (by omega)) (Or.inl ⟨_, rfl⟩) dX2_unitAt_20
  have J18 : ∀ (ca : Nat → Nat) (hj : cd_inj ad ca) (σ : cd_S) (H : Heap) (locs : List Loc) (ls : Array Slot), f_X2_unitAt_J18 n σ = some p → hp_w D vwCl (hp_Tl cA) E (hp_A (cd_pic cA ad ca0 σ0) sz) ss H locs (cd_pic cA ad ca σ) → lv_has ls 2 [] → W pp l ee ({ frames := 0, cells := 0, slots := 0, locals := 0 }) ss mm [.ref (ad 2 0), .int a1].toArray bb mt cd H locs 0 0 (MQ bb (hp_Qr D vwCl (hp_Tl cA) sz (cd_pic cA ad ca0 σ0) (fun r u => (p.1 < 60 ∧ r = ad 9 p.1) ∧ ∃ ca1, cd_inj ad ca1 ∧ u = cd_pic cA ad ca1 p.2)) [.ref (ad 2 0), .int a1].toArray ss 0 0 (hp_A (cd_pic cA ad ca0 σ0) sz)) (F0 mm 18 ls [.ref (ad 165 0)]) := by
    intro ca hj σ H locs ls h hw hl
    refine lv_iconst (v := 0) cx.1 cx.2.1 dX2_unitAt_18 (by decide) ?_
    exact J19 _ hj σ 0 _ _ _ h hw (lv_sub hl [] rfl)
  refine lv_aload_n cx.1 cx.2.1 dX2_unitAt_0 rfl (lv_at hl 0 rfl) ?_
  refine cd_gA (o := 2) (k := 1) (f := 65) hj cx hw hic2 rfl ⟨by decide, rfl, by decide, rfl⟩ rfl (by decide) (List.mem_cons_of_mem _ cm_274) dX2_unitAt_1 ?_
  refine lv_iload_n cx.1 cx.2.1 dX2_unitAt_4 rfl (lv_at hl 1 rfl) ?_
  refine lv_if_lt (tgt := 18) cx.1 cx.2.1 dX2_unitAt_5 (by decide) (fun c5 => ?_) (fun c5 => ?_)
  · have h := md_ip c5 h
    exact J18 _ hj σ0 _ _ _ h hw (lv_sub hl [] rfl)
  · have h := md_in c5 h
    refine lv_iload_n cx.1 cx.2.1 dX2_unitAt_8 rfl (lv_at hl 1 rfl) ?_
    refine lv_bipush (v := 60) cx.1 cx.2.1 dX2_unitAt_9 (by decide) ?_
    refine lv_icmp_ge (tgt := 18) cx.1 cx.2.1 dX2_unitAt_11 (by decide) (fun c11 => ?_) (fun c11 => ?_)
    · have h := md_ip c11 h
      exact J18 _ hj σ0 _ _ _ h hw (lv_sub hl [] rfl)
    · have h := md_in c11 h
      refine lv_iload_n cx.1 cx.2.1 dX2_unitAt_14 rfl (lv_at hl 1 rfl) ?_
      refine lv_goto (tgt := 19) cx.1 cx.2.1 dX2_unitAt_15 (by decide) ?_
      exact J19 _ hj σ0 a1 _ _ _ h hw (lv_sub hl [] rfl)
set_option maxHeartbeats 4000000 in
set_option maxRecDepth 100000 in
theorem kc_X7_peek (l : Launch) (D : va_G) (cA : Nat → ClassId) (E : hp_N) (sz : Nat) (ad : Nat → Nat → Nat) (ca0 : Nat → Nat) (hj : cd_inj ad ca0) (oq sgq sgv : Nat) (hE : cd_E E oq sgq sgv) (n : Nat) (σ0 : cd_S) (a0 : Nat) (a1 : Int32) (hb_a0 : a0 < 8) (p : (Int64 × cd_S)) (h : f_X7_peek n σ0 a0 a1 = some p) : Met l yX7_peek (Cond.code yX7_peek cX7_peek 2 (some .long) :: v_CLS) ({ frames := 1, cells := 0, slots := 0, locals := 21 }) (hp_Pc D vwCl (hp_Tl cA) E sz (cd_pic cA ad ca0 σ0) [.ref (ad 7 a0), .int a1]) (hp_Ql D vwCl (hp_Tl cA) sz (cd_pic cA ad ca0 σ0) (fun r u => r = p.1 ∧ ∃ ca1, cd_inj ad ca1 ∧ u = cd_pic cA ad ca1 p.2)) 0 0 (hp_A (cd_pic cA ad ca0 σ0) sz) := by
  refine hp_ofW (cc := cX7_peek) (maxL := 2) (ret := (some .long)) (by decide) rfl (Nat.le_of_ble_eq_true rfl) ?_
  intro pp ee ss mm bb mt cd ls cx hsz hw hl
  have hl : lv_has ls 2 [(0, .ref (ad 7 a0)), (1, .int a1)] := hl
  refine lv_aload_n cx.1 cx.2.1 dX7_peek_0 rfl (lv_at hl 0 rfl) ?_
  refine cd_gO (o2 := 6) (e2 := (9 + 1 * a0)) (o := 7) (k := 6) (f := 230) hj cx hw hic7 rfl ⟨by decide, rfl, by decide, rfl⟩ rfl (show _ < 8 by omega) ⟨rfl, rfl⟩ (List.mem_cons_of_mem _ cm_109) dX7_peek_1 ?_
  refine lv_aload_n cx.1 cx.2.1 dX7_peek_4 rfl (lv_at hl 0 rfl) ?_
  refine cd_gO (o2 := 6) (e2 := (9 + 1 * a0)) (o := 7) (k := 6) (f := 230) hj cx hw hic7 rfl ⟨by decide, rfl, by decide, rfl⟩ rfl (show _ < 8 by omega) ⟨rfl, rfl⟩ (List.mem_cons_of_mem _ cm_109) dX7_peek_5 ?_
  refine cd_gI (o := 6) (k := 1) (f := 193) hj cx hw hic6 rfl ⟨by decide, rfl, by decide, rfl⟩ rfl (show _ < 197 by omega) (List.mem_cons_of_mem _ cm_110) dX7_peek_8 ?_
  refine lv_iconst (v := 1) cx.1 cx.2.1 dX7_peek_11 (by decide) ?_
  refine lv_isub cx.1 cx.2.1 dX7_peek_12 ?_
  refine lv_iload_n cx.1 cx.2.1 dX7_peek_13 rfl (lv_at hl 1 rfl) ?_
  refine lv_isub cx.1 cx.2.1 dX7_peek_14 ?_
  obtain ⟨p1, e_p1, h⟩ := md_ob h
  refine hp_callVl (As := [.int (((cI σ0 193 ((9 + 1 * a0))) - 1) - a1)]) (rest := []) cx hw (kc_X6_get l D cA E _ ad _ hj oq sgq sgv hE n σ0 ((9 + 1 * a0)) ((((cI σ0 193 ((9 + 1 * a0))) - 1) - a1)) (show _ < 197 by omega) p1 e_p1) (cwV 1 cx.2.2.2.2.2.1 (cd_giV cm_239 cm_240 cm_241 cm_5 cm_242) rfl rfl rfl hdc_X6_get ⟨Nat.le_of_ble_eq_true rfl, Nat.le_of_ble_eq_true rfl⟩) (cd_atO hj (by decide) (show _ < 197 by omega)) rfl rfl hl.1 rfl (Nat.le_of_ble_eq_true rfl) dX7_peek_15 ⟨Nat.le_refl _, Nat.le_refl _⟩ (fun r u H locs hp hw => ?_)
  obtain ⟨rfl, ca, hj, rfl⟩ := hp
  exact hp_lret cx hw (cd_ret hj h) dX7_peek_18
set_option maxHeartbeats 4000000 in
set_option maxRecDepth 100000 in
theorem kc_X1_apply (l : Launch) (D : va_G) (cA : Nat → ClassId) (E : hp_N) (sz : Nat) (ad : Nat → Nat → Nat) (ca0 : Nat → Nat) (hj : cd_inj ad ca0) (oq sgq sgv : Nat) (hE : cd_E E oq sgq sgv) (n : Nat) (σ0 : cd_S) (b0 : cd_B) (a1 : Nat) (a2 : Int32) (hb_a1 : a1 < 8) (p : (Int32 × cd_S × cd_B)) (h : f_X1_apply n σ0 b0 a1 a2 = some p) : (p.2.2.1 ≤ b0.1 ∧ p.2.2.2 ≤ b0.2) ∧ Met l yX1_apply (Cond.code yX1_apply cX1_apply 8 (some .int) :: v_CLS) ({ frames := 6, cells := b0.1 - p.2.2.1, slots := b0.2 - p.2.2.2, locals := 158 }) (hp_Pc D vwCl (hp_Tl cA) E sz (cd_pic cA ad ca0 σ0) [.ref (ad 1 0), .ref (ad 7 a1), .int a2]) (hp_Qi D vwCl (hp_Tl cA) sz (cd_pic cA ad ca0 σ0) (fun r u => r = p.1 ∧ ∃ ca1, cd_inj ad ca1 ∧ u = cd_pic cA ad ca1 p.2.1)) (b0.1 - p.2.2.1) (b0.2 - p.2.2.2) (hp_A (cd_pic cA ad ca0 σ0) sz) := by
  obtain ⟨hm0, hn0, h⟩ := cd_cks h
  have hM0 : p.2.2.1 ≤ b0.1 ∧ p.2.2.2 ≤ b0.2 := ⟨hm0, hn0⟩
  refine ⟨hM0, ?_⟩
  refine hp_ofW (cc := cX1_apply) (maxL := 8) (ret := (some .int)) (by decide) rfl (Nat.le_of_ble_eq_true rfl) ?_
  intro pp ee ss mm bb mt cd ls cx hsz hw hl
  have hl : lv_has ls 8 [(0, .ref (ad 1 0)), (1, .ref (ad 7 a1)), (2, .int a2)] := hl
  refine W.widen (k := b0.1 - b0.1) (n := b0.2 - b0.2) (Nat.zero_le _) (Nat.zero_le _) ?_
  refine lv_aload_n cx.1 cx.2.1 dX1_apply_0 rfl (lv_at hl 1 rfl) ?_
  refine lv_iload_n cx.1 cx.2.1 dX1_apply_1 rfl (lv_at hl 2 rfl) ?_
  obtain ⟨p1, e_p1, h⟩ := md_ob h
  refine hp_callVl (As := [.int a2]) (rest := []) cx hw (kc_X7_peek l D cA E _ ad _ hj oq sgq sgv hE n σ0 a1 a2 (show _ < 8 by omega) p1 e_p1) (cwV 1 cx.2.2.2.2.2.1 (cd_giV cm_275 cm_276 cm_277 cm_94 cm_278) rfl rfl rfl hdc_X7_peek ⟨Nat.le_of_ble_eq_true rfl, Nat.le_of_ble_eq_true rfl⟩) (cd_atO hj (by decide) (show _ < 8 by omega)) rfl rfl hl.1 rfl (Nat.le_of_ble_eq_true rfl) dX1_apply_2 ⟨by (try dsimp only); omega, by (try dsimp only); omega⟩ (fun r u H locs hp hw => ?_)
  obtain ⟨rfl, ca, hj, rfl⟩ := hp
  refine lv_lstore_n (lv' := [(3, .long p1.1), (0, .ref (ad 1 0)), (1, .ref (ad 7 a1)), (2, .int a2)]) cx.1 cx.2.1 dX1_apply_5 rfl hl (by decide) rfl (fun ls hl => ?_)
  refine lv_lload_n cx.1 cx.2.1 dX1_apply_6 rfl (lv_at hl 0 rfl) ?_
  obtain ⟨p2, e_p2, h⟩ := md_ob h
  refine hp_callSi (As := [.long p1.1]) (rest := []) cx hw (kc_X1_sortOf l D cA E _ ad _ hj oq sgq sgv hE n p1.2 (p1.1) p2 e_p2) (cwS 1 cx.2.2.2.2.2.1 (cd_giS cm_279 cm_244 cm_130 cm_245) rfl rfl rfl hdc_X1_sortOf ⟨Nat.le_of_ble_eq_true rfl, Nat.le_of_ble_eq_true rfl⟩) rfl hl.1 rfl (Nat.le_of_ble_eq_true rfl) dX1_apply_7 ⟨by (try dsimp only); omega, by (try dsimp only); omega⟩ (fun r u H locs hp hw => ?_)
  obtain ⟨rfl, ca, hj, rfl⟩ := hp
  refine lv_iconst (v := 3) cx.1 cx.2.1 dX1_apply_10 (by decide) ?_
  refine lv_icmp_eq (tgt := 20) cx.1 cx.2.1 dX1_apply_11 (by decide) (fun c11 => ?_) (fun c11 => ?_)
  · have h := md_ip c11 h
    refine lv_aload_n cx.1 cx.2.1 dX1_apply_20 rfl (lv_at hl 1 rfl) ?_
    refine cd_gO (o2 := 2) (e2 := 0) (o := 1) (k := 0) (f := 32) hj cx hw hic1 rfl ⟨by decide, rfl, by decide, rfl⟩ rfl (by decide) ⟨rfl, rfl⟩ (List.mem_cons_of_mem _ cm_179) dX1_apply_21 ?_
    refine lv_aload_n cx.1 cx.2.1 dX1_apply_24 rfl (lv_at hl 1 rfl) ?_
    refine lv_lload_n cx.1 cx.2.1 dX1_apply_25 rfl (lv_at hl 0 rfl) ?_
    obtain ⟨p3, e_p3, h⟩ := md_ob h
    refine hp_callVi (As := [.long p1.1]) (rest := [.ref (ad 2 0)]) cx hw (kc_X1_thingOf l D cA E _ ad _ hj oq sgq sgv hE n p2.2 (p1.1) p3 e_p3) (cwV 1 cx.2.2.2.2.2.1 (cd_giV cm_280 cm_281 cm_282 cm_130 cm_283) rfl rfl rfl hdc_X1_thingOf ⟨Nat.le_of_ble_eq_true rfl, Nat.le_of_ble_eq_true rfl⟩) (cd_atO hj (by decide) (by decide)) rfl rfl hl.1 rfl (Nat.le_of_ble_eq_true rfl) dX1_apply_26 ⟨by (try dsimp only); omega, by (try dsimp only); omega⟩ (fun r u H locs hp hw => ?_)
    obtain ⟨rfl, ca, hj, rfl⟩ := hp
    obtain ⟨p4, e_p4, h⟩ := md_ob h
    refine hp_callVr (As := [.int p3.1]) (rest := []) cx hw (kc_X2_unitAt l D cA E _ ad _ hj oq sgq sgv hE n p3.2 (p3.1) p4 e_p4) (cwV 1 cx.2.2.2.2.2.1 (cd_giV cm_284 cm_285 cm_286 cm_167 cm_287) rfl rfl rfl hdc_X2_unitAt ⟨Nat.le_of_ble_eq_true rfl, Nat.le_of_ble_eq_true rfl⟩) (cd_atO hj (by decide) (by decide)) rfl rfl hl.1 rfl (Nat.le_of_ble_eq_true rfl) dX1_apply_29 ⟨by (try dsimp only); omega, by (try dsimp only); omega⟩ (fun r u H locs hp hw => ?_)
    obtain ⟨⟨hb_p4, rfl⟩, ca, hj, rfl⟩ := hp
    refine lv_astore (lv' := [(5, .ref (ad 9 p4.1)), (3, .long p1.1), (0, .ref (ad 1 0)), (1, .ref (ad 7 a1)), (2, .int a2)]) cx.1 cx.2.1 dX1_apply_32 hl (by decide) rfl (fun ls hl => ?_)
    refine lv_aload cx.1 cx.2.1 dX1_apply_34 (lv_at hl 0 rfl) ?_
    refine cd_gI (o := 9) (k := 6) (f := 294) hj cx hw hic9 rfl ⟨by decide, rfl, by decide, rfl⟩ rfl (show _ < 60 by omega) (List.mem_cons_of_mem _ cm_288) dX1_apply_36 ?_
    refine lv_iload_n cx.1 cx.2.1 dX1_apply_39 rfl (lv_at hl 4 rfl) ?_
    refine lv_icmp_eq (tgt := 49) cx.1 cx.2.1 dX1_apply_40 (by decide) (fun c40 => ?_) (fun c40 => ?_)
    · have h := md_ip c40 h
      refine lv_aload_n cx.1 cx.2.1 dX1_apply_49 rfl (lv_at hl 3 rfl) ?_
      refine cd_gO (o2 := 6) (e2 := (9 + 1 * a1)) (o := 7) (k := 6) (f := 230) hj cx hw hic7 rfl ⟨by decide, rfl, by decide, rfl⟩ rfl (show _ < 8 by omega) ⟨rfl, rfl⟩ (List.mem_cons_of_mem _ cm_89) dX1_apply_50 ?_
      refine cd_gI (o := 6) (k := 1) (f := 193) hj cx hw hic6 rfl ⟨by decide, rfl, by decide, rfl⟩ rfl (show _ < 197 by omega) (List.mem_cons_of_mem _ cm_74) dX1_apply_53 ?_
      refine lv_istore (lv' := [(6, .int (cI p4.2 193 ((9 + 1 * a1)))), (5, .ref (ad 9 p4.1)), (3, .long p1.1), (0, .ref (ad 1 0)), (1, .ref (ad 7 a1)), (2, .int a2)]) cx.1 cx.2.1 dX1_apply_56 hl (by decide) rfl (fun ls hl => ?_)
      refine lv_aload_n cx.1 cx.2.1 dX1_apply_58 rfl (lv_at hl 3 rfl) ?_
      refine lv_aload_n cx.1 cx.2.1 dX1_apply_59 rfl (lv_at hl 4 rfl) ?_
      refine lv_lload_n cx.1 cx.2.1 dX1_apply_60 rfl (lv_at hl 2 rfl) ?_
      refine lv_aload cx.1 cx.2.1 dX1_apply_61 (lv_at hl 1 rfl) ?_
      obtain ⟨p5, e_p5, h⟩ := md_ob h
      obtain ⟨hm6, hn6, h⟩ := cd_cks h
      have hM6 : p.2.2.1 ≤ p5.2.2.1 ∧ p.2.2.2 ≤ p5.2.2.2 := ⟨hm6, hn6⟩
      have hle5 := (kc_X1_pushCaptured l D cA E sz ad _ hj oq sgq sgv hE n p4.2 b0 a1 (p1.1) (p4.1) (show _ < 8 by omega) (show _ < 60 by omega) p5 e_p5).1
      refine hp_callVv (As := [.ref (ad 7 a1), .long p1.1, .ref (ad 9 p4.1)]) (rest := []) cx hw ((kc_X1_pushCaptured l D cA E _ ad _ hj oq sgq sgv hE n p4.2 b0 a1 (p1.1) (p4.1) (show _ < 8 by omega) (show _ < 60 by omega) p5 e_p5).2) (cwV 3 cx.2.2.2.2.2.1 (cd_giV cm_289 cm_290 cm_291 cm_130 cm_292) rfl rfl rfl hdc_X1_pushCaptured ⟨Nat.le_of_ble_eq_true rfl, Nat.le_of_ble_eq_true rfl⟩) (cd_atO hj (by decide) (by decide)) rfl rfl hl.1 rfl (Nat.le_of_ble_eq_true rfl) dX1_apply_63 ⟨by (try dsimp only); omega, by (try dsimp only); omega⟩ (fun u H locs hp hw => ?_)
      obtain ⟨ca, hj, rfl⟩ := hp
      refine W.widen (k := b0.1 - p5.2.2.1) (n := b0.2 - p5.2.2.2) (by omega) (by omega) ?_
      refine lv_iconst (v := 0) cx.1 cx.2.1 dX1_apply_66 (by decide) ?_
      refine lv_istore (lv' := [(7, .int 0), (6, .int (cI p4.2 193 ((9 + 1 * a1)))), (5, .ref (ad 9 p4.1)), (3, .long p1.1), (0, .ref (ad 1 0)), (1, .ref (ad 7 a1)), (2, .int a2)]) cx.1 cx.2.1 dX1_apply_67 hl (by decide) rfl (fun ls hl => ?_)
      have L69 : ∀ (j : Nat) (ca : Nat → Nat) (hj : cd_inj ad ca) (σ : cd_S) (b : cd_B) (l2 : Int32) (l5 : Nat) (l6 : Int32) (l7 : Int32) (q : (cd_S × cd_B × Int32)) (H : Heap) (locs : List Loc) (ls : Array Slot), l5 < 60 → b.1 ≤ b0.1 → b.2 ≤ b0.2 → p.2.2.1 ≤ b.1 → p.2.2.2 ≤ b.2 → p.2.2.1 ≤ q.2.1.1 → p.2.2.2 ≤ q.2.1.2 → f_X1_apply_L69 n a1 l2 l5 l6 j σ b l7 = some q → hp_w D vwCl (hp_Tl cA) E (hp_A (cd_pic cA ad ca0 σ0) sz) ss H locs (cd_pic cA ad ca σ) → lv_has ls 8 [(0, .ref (ad 1 0)), (1, .ref (ad 7 a1)), (2, .int l2), (5, .ref (ad 9 l5)), (6, .int l6), (7, .int l7)] → (∀ (ca : Nat → Nat) (hj : cd_inj ad ca) (H : Heap) (locs : List Loc) (ls : Array Slot), q.2.1.1 ≤ b0.1 → q.2.1.2 ≤ b0.2 → hp_w D vwCl (hp_Tl cA) E (hp_A (cd_pic cA ad ca0 σ0) sz) ss H locs (cd_pic cA ad ca q.1) → lv_has ls 8 [(0, .ref (ad 1 0)), (1, .ref (ad 7 a1)), (2, .int l2), (5, .ref (ad 9 l5)), (6, .int l6)] → W pp l ee ({ frames := 6, cells := b0.1 - p.2.2.1, slots := b0.2 - p.2.2.2, locals := 158 }) ss mm [.ref (ad 1 0), .ref (ad 7 a1), .int a2].toArray bb mt cd H locs (b0.1 - q.2.1.1) (b0.2 - q.2.1.2) (MQ bb (hp_Qi D vwCl (hp_Tl cA) sz (cd_pic cA ad ca0 σ0) (fun r u => r = p.1 ∧ ∃ ca1, cd_inj ad ca1 ∧ u = cd_pic cA ad ca1 p.2.1)) [.ref (ad 1 0), .ref (ad 7 a1), .int a2].toArray ss (b0.1 - p.2.2.1) (b0.2 - p.2.2.2) (hp_A (cd_pic cA ad ca0 σ0) sz)) (F0 mm 100 ls [])) → W pp l ee ({ frames := 6, cells := b0.1 - p.2.2.1, slots := b0.2 - p.2.2.2, locals := 158 }) ss mm [.ref (ad 1 0), .ref (ad 7 a1), .int a2].toArray bb mt cd H locs (b0.1 - b.1) (b0.2 - b.2) (MQ bb (hp_Qi D vwCl (hp_Tl cA) sz (cd_pic cA ad ca0 σ0) (fun r u => r = p.1 ∧ ∃ ca1, cd_inj ad ca1 ∧ u = cd_pic cA ad ca1 p.2.1)) [.ref (ad 1 0), .ref (ad 7 a1), .int a2].toArray ss (b0.1 - p.2.2.1) (b0.2 - p.2.2.2) (hp_A (cd_pic cA ad ca0 σ0) sz)) (F0 mm 69 ls []) := by
        intro j
        induction j with
        | zero => intro ca hj σ b l2 l5 l6 l7 q H locs ls hb_l5 hb1 hb2 hf1 hf2 hq1 hq2 h; exact nomatch h
        | succ j ih =>
          intro ca hj σ b l2 l5 l6 l7 q H locs ls hb_l5 hb1 hb2 hf1 hf2 hq1 hq2 h hw hl K
          unfold f_X1_apply_L69 at h
          refine lv_iload cx.1 cx.2.1 dX1_apply_69 (lv_at hl 5 rfl) ?_
          refine lv_iload_n cx.1 cx.2.1 dX1_apply_71 rfl (lv_at hl 2 rfl) ?_
          refine lv_icmp_ge (tgt := 100) cx.1 cx.2.1 dX1_apply_72 (by decide) (fun c72 => ?_) (fun c72 => ?_)
          · have h := md_ip c72 h
            obtain rfl := Option.some.inj h
            exact K _ hj _ _ _ (by (try dsimp only); omega) (by (try dsimp only); omega) hw (lv_sub hl [0, 1, 2, 3, 4] rfl)
          · have h := md_in c72 h
            refine lv_aload_n cx.1 cx.2.1 dX1_apply_75 rfl (lv_at hl 1 rfl) ?_
            refine lv_aload_n cx.1 cx.2.1 dX1_apply_76 rfl (lv_at hl 1 rfl) ?_
            refine cd_gO (o2 := 6) (e2 := (9 + 1 * a1)) (o := 7) (k := 6) (f := 230) hj cx hw hic7 rfl ⟨by decide, rfl, by decide, rfl⟩ rfl (show _ < 8 by omega) ⟨rfl, rfl⟩ (List.mem_cons_of_mem _ cm_89) dX1_apply_77 ?_
            refine lv_iload cx.1 cx.2.1 dX1_apply_80 (lv_at hl 4 rfl) ?_
            refine lv_iload_n cx.1 cx.2.1 dX1_apply_82 rfl (lv_at hl 2 rfl) ?_
            refine lv_isub cx.1 cx.2.1 dX1_apply_83 ?_
            refine lv_iload cx.1 cx.2.1 dX1_apply_84 (lv_at hl 5 rfl) ?_
            refine lv_iadd cx.1 cx.2.1 dX1_apply_86 ?_
            obtain ⟨p7, e_p7, h⟩ := md_ob h
            refine hp_callVl (As := [.int ((l6 - l2) + l7)]) (rest := [.ref (ad 7 a1)]) cx hw (kc_X6_get l D cA E _ ad _ hj oq sgq sgv hE n σ ((9 + 1 * a1)) (((l6 - l2) + l7)) (show _ < 197 by omega) p7 e_p7) (cwV 1 cx.2.2.2.2.2.1 (cd_giV cm_273 cm_240 cm_241 cm_5 cm_242) rfl rfl rfl hdc_X6_get ⟨Nat.le_of_ble_eq_true rfl, Nat.le_of_ble_eq_true rfl⟩) (cd_atO hj (by decide) (show _ < 197 by omega)) rfl rfl hl.1 rfl (Nat.le_of_ble_eq_true rfl) dX1_apply_87 ⟨by (try dsimp only); omega, by (try dsimp only); omega⟩ (fun r u H locs hp hw => ?_)
            obtain ⟨rfl, ca, hj, rfl⟩ := hp
            obtain ⟨p8, e_p8, h⟩ := md_ob h
            obtain ⟨hm9, hn9, h⟩ := cd_cks h
            have hM9 : p.2.2.1 ≤ p8.2.2.1 ∧ p.2.2.2 ≤ p8.2.2.2 := ⟨Nat.le_trans hq1 hm9, Nat.le_trans hq2 hn9⟩
            have hle8 := (kc_X1_push l D cA E sz ad _ hj oq sgq sgv hE n p7.2 b a1 (p7.1) (show _ < 8 by omega) p8 e_p8).1
            refine hp_callSi (As := [.ref (ad 7 a1), .long p7.1]) (rest := []) cx hw ((kc_X1_push l D cA E _ ad _ hj oq sgq sgv hE n p7.2 b a1 (p7.1) (show _ < 8 by omega) p8 e_p8).2) (cwS 2 cx.2.2.2.2.2.1 (cd_giS cm_157 cm_158 cm_130 cm_159) rfl rfl rfl hdc_X1_push ⟨Nat.le_of_ble_eq_true rfl, Nat.le_of_ble_eq_true rfl⟩) rfl hl.1 rfl (Nat.le_of_ble_eq_true rfl) dX1_apply_90 ⟨by (try dsimp only); omega, by (try dsimp only); omega⟩ (fun r u H locs hp hw => ?_)
            obtain ⟨rfl, ca, hj, rfl⟩ := hp
            refine W.widen (k := b0.1 - p8.2.2.1) (n := b0.2 - p8.2.2.2) (by omega) (by omega) ?_
            refine lv_pop cx.1 cx.2.1 dX1_apply_93 rfl ?_
            refine lv_iinc (v := (l7 + 1)) (lv' := [(7, .int (l7 + 1)), (0, .ref (ad 1 0)), (1, .ref (ad 7 a1)), (2, .int l2), (5, .ref (ad 9 l5)), (6, .int l6)]) cx.1 cx.2.1 dX1_apply_94 hl (k := 5) rfl rfl (by decide) rfl (fun ls hl => ?_)
            refine lv_goto (tgt := 69) cx.1 cx.2.1 dX1_apply_97 (by decide) ?_
            exact ih _ hj p8.2.1 (p8.2.2) l2 l5 l6 ((l7 + 1)) q _ _ _ (by omega) (by omega) (by omega) (by omega) (by omega) hq1 hq2 h hw (lv_sub hl [1, 2, 3, 4, 5, 0] rfl) K
      obtain ⟨q10, e_q10, h⟩ := md_ob h
      obtain ⟨hm11, hn11, h⟩ := cd_cks h
      have hM11 : p.2.2.1 ≤ q10.2.1.1 ∧ p.2.2.2 ≤ q10.2.1.2 := ⟨hm11, hn11⟩
      refine L69 n _ hj p5.2.1 (p5.2.2) a2 (p4.1) ((cI p4.2 193 ((9 + 1 * a1)))) 0 q10 _ _ _ (by omega) (by omega) (by omega) (by omega) (by omega) hM11.1 hM11.2 e_q10 hw (lv_sub hl [4, 5, 6, 2, 1, 0] rfl) (fun ca hj H locs ls hb1 hb2 hw hl => ?_)
      refine lv_aload_n cx.1 cx.2.1 dX1_apply_100 rfl (lv_at hl 0 rfl) ?_
      refine lv_aload_n cx.1 cx.2.1 dX1_apply_101 rfl (lv_at hl 1 rfl) ?_
      refine lv_aload cx.1 cx.2.1 dX1_apply_102 (lv_at hl 3 rfl) ?_
      refine lv_iload cx.1 cx.2.1 dX1_apply_104 (lv_at hl 4 rfl) ?_
      refine lv_iload cx.1 cx.2.1 dX1_apply_106 (lv_at hl 4 rfl) ?_
      refine lv_iconst (v := 1) cx.1 cx.2.1 dX1_apply_108 (by decide) ?_
      refine lv_isub cx.1 cx.2.1 dX1_apply_109 ?_
      refine lv_iload_n cx.1 cx.2.1 dX1_apply_110 rfl (lv_at hl 2 rfl) ?_
      refine lv_isub cx.1 cx.2.1 dX1_apply_111 ?_
      refine lv_iconst (v := (-1)) cx.1 cx.2.1 dX1_apply_112 (by decide) ?_
      obtain ⟨p12, e_p12, h⟩ := md_ob h
      refine hp_callVi (As := [.ref (ad 7 a1), .ref (ad 9 p4.1), .int (cI p4.2 193 ((9 + 1 * a1))), .int (((cI p4.2 193 ((9 + 1 * a1))) - 1) - a2), .int (-1)]) (rest := []) cx hw (kc_X1_call l D cA E _ ad _ hj oq sgq sgv hE n q10.1 a1 (p4.1) ((cI p4.2 193 ((9 + 1 * a1)))) ((((cI p4.2 193 ((9 + 1 * a1))) - 1) - a2)) ((-1) : Int32) (show _ < 8 by omega) (show _ < 60 by omega) p12 e_p12) (cwV 5 cx.2.2.2.2.2.1 (cd_giV cm_293 cm_294 cm_295 cm_130 cm_296) rfl rfl rfl hdc_X1_call ⟨Nat.le_of_ble_eq_true rfl, Nat.le_of_ble_eq_true rfl⟩) (cd_atO hj (by decide) (by decide)) rfl rfl hl.1 rfl (Nat.le_of_ble_eq_true rfl) dX1_apply_113 ⟨by (try dsimp only); omega, by (try dsimp only); omega⟩ (fun r u H locs hp hw => ?_)
      obtain ⟨rfl, ca, hj, rfl⟩ := hp
      exact hp_iret cx hw (cd_retb hj h) dX1_apply_116 (cd_le1 h) (cd_le2 h)
    · have h := md_in c40 h
      refine lv_aload_n cx.1 cx.2.1 dX1_apply_43 rfl (lv_at hl 3 rfl) ?_
      refine lv_iconst (v := 4) cx.1 cx.2.1 dX1_apply_44 (by decide) ?_
      obtain ⟨p13, e_p13, h⟩ := md_ob h
      refine hp_callSi (As := [.ref (ad 7 a1), .int 4]) (rest := []) cx hw (kc_X1_fail l D cA E _ ad _ hj oq sgq sgv hE n p4.2 a1 (4 : Int32) (show _ < 8 by omega) p13 e_p13) (cwS 2 cx.2.2.2.2.2.1 (cd_giS cm_132 cm_133 cm_130 cm_134) rfl rfl rfl hdc_X1_fail ⟨Nat.le_of_ble_eq_true rfl, Nat.le_of_ble_eq_true rfl⟩) rfl hl.1 rfl (Nat.le_of_ble_eq_true rfl) dX1_apply_45 ⟨by (try dsimp only); omega, by (try dsimp only); omega⟩ (fun r u H locs hp hw => ?_)
      obtain ⟨rfl, ca, hj, rfl⟩ := hp
      exact hp_iret cx hw (cd_retb hj h) dX1_apply_48 (cd_le1 h) (cd_le2 h)
  · have h := md_in c11 h
    refine lv_aload_n cx.1 cx.2.1 dX1_apply_14 rfl (lv_at hl 2 rfl) ?_
    refine lv_iconst (v := 3) cx.1 cx.2.1 dX1_apply_15 (by decide) ?_
    obtain ⟨p14, e_p14, h⟩ := md_ob h
    refine hp_callSi (As := [.ref (ad 7 a1), .int 3]) (rest := []) cx hw (kc_X1_fail l D cA E _ ad _ hj oq sgq sgv hE n p2.2 a1 (3 : Int32) (show _ < 8 by omega) p14 e_p14) (cwS 2 cx.2.2.2.2.2.1 (cd_giS cm_132 cm_133 cm_130 cm_134) rfl rfl rfl hdc_X1_fail ⟨Nat.le_of_ble_eq_true rfl, Nat.le_of_ble_eq_true rfl⟩) rfl hl.1 rfl (Nat.le_of_ble_eq_true rfl) dX1_apply_16 ⟨by (try dsimp only); omega, by (try dsimp only); omega⟩ (fun r u H locs hp hw => ?_)
    obtain ⟨rfl, ca, hj, rfl⟩ := hp
    exact hp_iret cx hw (cd_retb hj h) dX1_apply_19 (cd_le1 h) (cd_le2 h)
set_option maxHeartbeats 4000000 in
set_option maxRecDepth 100000 in
theorem kc_X1_walk (l : Launch) (D : va_G) (cA : Nat → ClassId) (E : hp_N) (sz : Nat) (ad : Nat → Nat → Nat) (ca0 : Nat → Nat) (hj : cd_inj ad ca0) (oq sgq sgv : Nat) (hE : cd_E E oq sgq sgv) (n : Nat) (σ0 : cd_S) (a1 : Int32) (a2 : Int32) (p : (Int32 × cd_S)) (h : f_X1_walk n σ0 a1 a2 = some p) : Met l yX1_walk (Cond.code yX1_walk cX1_walk 7 (some .boolean) :: v_CLS) ({ frames := 1, cells := 0, slots := 0, locals := 21 }) (hp_Pc D vwCl (hp_Tl cA) E sz (cd_pic cA ad ca0 σ0) [.ref (ad 1 0), .int a1, .int a2]) (hp_Qi D vwCl (hp_Tl cA) sz (cd_pic cA ad ca0 σ0) (fun r u => r = p.1 ∧ ∃ ca1, cd_inj ad ca1 ∧ u = cd_pic cA ad ca1 p.2)) 0 0 (hp_A (cd_pic cA ad ca0 σ0) sz) := by
  refine hp_ofW (cc := cX1_walk) (maxL := 7) (ret := (some .boolean)) (by decide) rfl (Nat.le_of_ble_eq_true rfl) ?_
  intro pp ee ss mm bb mt cd ls cx hsz hw hl
  have hl : lv_has ls 7 [(0, .ref (ad 1 0)), (1, .int a1), (2, .int a2)] := hl
  refine lv_iload_n cx.1 cx.2.1 dX1_walk_0 rfl (lv_at hl 1 rfl) ?_
  refine lv_istore_n (lv' := [(3, .int a1), (0, .ref (ad 1 0)), (1, .int a1), (2, .int a2)]) cx.1 cx.2.1 dX1_walk_1 rfl hl (by decide) rfl (fun ls hl => ?_)
  refine lv_iconst (v := 0) cx.1 cx.2.1 dX1_walk_2 (by decide) ?_
  refine lv_istore (lv' := [(4, .int 0), (3, .int a1), (0, .ref (ad 1 0)), (1, .int a1), (2, .int a2)]) cx.1 cx.2.1 dX1_walk_3 hl (by decide) rfl (fun ls hl => ?_)
  have L5 : ∀ (j : Nat) (ca : Nat → Nat) (hj : cd_inj ad ca) (σ : cd_S) (l2 : Int32) (l3 : Int32) (l4 : Int32) (q : ((Int32 × cd_S) ⊕ (cd_S × Int32 × Int32))) (H : Heap) (locs : List Loc) (ls : Array Slot), f_X1_walk_L5 n l2 j σ l3 l4 = some q → hp_w D vwCl (hp_Tl cA) E (hp_A (cd_pic cA ad ca0 σ0) sz) ss H locs (cd_pic cA ad ca σ) → lv_has ls 7 [(0, .ref (ad 1 0)), (2, .int l2), (3, .int l3), (4, .int l4)] → (∀ t, q = Sum.inr t → (∀ (ca : Nat → Nat) (hj : cd_inj ad ca) (H : Heap) (locs : List Loc) (ls : Array Slot), hp_w D vwCl (hp_Tl cA) E (hp_A (cd_pic cA ad ca0 σ0) sz) ss H locs (cd_pic cA ad ca t.1) → lv_has ls 7 [] → W pp l ee ({ frames := 1, cells := 0, slots := 0, locals := 21 }) ss mm [.ref (ad 1 0), .int a1, .int a2].toArray bb mt cd H locs 0 0 (MQ bb (hp_Qi D vwCl (hp_Tl cA) sz (cd_pic cA ad ca0 σ0) (fun r u => r = p.1 ∧ ∃ ca1, cd_inj ad ca1 ∧ u = cd_pic cA ad ca1 p.2)) [.ref (ad 1 0), .int a1, .int a2].toArray ss 0 0 (hp_A (cd_pic cA ad ca0 σ0) sz)) (F0 mm 140 ls []))) → (∀ r, q = Sum.inl r → r = p) → W pp l ee ({ frames := 1, cells := 0, slots := 0, locals := 21 }) ss mm [.ref (ad 1 0), .int a1, .int a2].toArray bb mt cd H locs 0 0 (MQ bb (hp_Qi D vwCl (hp_Tl cA) sz (cd_pic cA ad ca0 σ0) (fun r u => r = p.1 ∧ ∃ ca1, cd_inj ad ca1 ∧ u = cd_pic cA ad ca1 p.2)) [.ref (ad 1 0), .int a1, .int a2].toArray ss 0 0 (hp_A (cd_pic cA ad ca0 σ0) sz)) (F0 mm 5 ls []) := by
    intro j
    induction j with
    | zero => intro ca hj σ l2 l3 l4 q H locs ls h; exact nomatch h
    | succ j ih =>
      intro ca hj σ l2 l3 l4 q H locs ls h hw hl K KR
      unfold f_X1_walk_L5 at h
      have J129 : ∀ (ca : Nat → Nat) (hj : cd_inj ad ca) (σ : cd_S) (l4 : Int32) (t0 : Int32) (t1 : Int32) (H : Heap) (locs : List Loc) (ls : Array Slot), f_X1_walk_J129 n l2 (f_X1_walk_L5 n l2 j) σ l4 t0 t1 = some q → hp_w D vwCl (hp_Tl cA) E (hp_A (cd_pic cA ad ca0 σ0) sz) ss H locs (cd_pic cA ad ca σ) → lv_has ls 7 [(0, .ref (ad 1 0)), (2, .int l2), (4, .int l4)] → W pp l ee ({ frames := 1, cells := 0, slots := 0, locals := 21 }) ss mm [.ref (ad 1 0), .int a1, .int a2].toArray bb mt cd H locs 0 0 (MQ bb (hp_Qi D vwCl (hp_Tl cA) sz (cd_pic cA ad ca0 σ0) (fun r u => r = p.1 ∧ ∃ ca1, cd_inj ad ca1 ∧ u = cd_pic cA ad ca1 p.2)) [.ref (ad 1 0), .int a1, .int a2].toArray ss 0 0 (hp_A (cd_pic cA ad ca0 σ0) sz)) (F0 mm 129 ls [.int t0, .int t1, .ref (ad 6 5)]) := by
        intro ca hj σ l4 t0 t1 H locs ls h hw hl
        refine lv_iadd cx.1 cx.2.1 dX1_walk_129 ?_
        obtain ⟨p1, e_p1, h⟩ := md_ob h
        refine hp_callVi (As := [.int (t1 + t0)]) (rest := []) cx hw (kc_X6_at l D cA E _ ad _ hj oq sgq sgv hE n σ 5 ((t1 + t0)) (by decide) p1 e_p1) (cwV 1 cx.2.2.2.2.2.1 (cd_giV cm_267 cm_17 cm_18 cm_5 cm_19) rfl rfl rfl hdc_X6_at ⟨Nat.le_of_ble_eq_true rfl, Nat.le_of_ble_eq_true rfl⟩) (cd_atO hj (by decide) (by decide)) rfl rfl hl.1 rfl (Nat.le_of_ble_eq_true rfl) dX1_walk_130 ⟨Nat.le_refl _, Nat.le_refl _⟩ (fun r u H locs hp hw => ?_)
        obtain ⟨rfl, ca, hj, rfl⟩ := hp
        refine lv_istore_n (lv' := [(3, .int p1.1), (0, .ref (ad 1 0)), (2, .int l2), (4, .int l4)]) cx.1 cx.2.1 dX1_walk_133 rfl hl (by decide) rfl (fun ls hl => ?_)
        refine lv_iinc (v := (l4 + 1)) (lv' := [(4, .int (l4 + 1)), (3, .int p1.1), (0, .ref (ad 1 0)), (2, .int l2)]) cx.1 cx.2.1 dX1_walk_134 hl (k := 3) rfl rfl (by decide) rfl (fun ls hl => ?_)
        refine lv_goto (tgt := 5) cx.1 cx.2.1 dX1_walk_137 (by decide) ?_
        exact ih _ hj p1.2 l2 (p1.1) ((l4 + 1)) q _ _ _ h hw (lv_sub hl [2, 3, 1, 0] rfl) K KR
      have J90 : ∀ (ca : Nat → Nat) (hj : cd_inj ad ca) (σ : cd_S) (l3 : Int32) (l4 : Int32) (l5 : Nat) (t0 : Int32) (H : Heap) (locs : List Loc) (ls : Array Slot), l5 < 60 → f_X1_walk_J90 n l2 (f_X1_walk_L5 n l2 j) σ l3 l4 l5 t0 = some q → hp_w D vwCl (hp_Tl cA) E (hp_A (cd_pic cA ad ca0 σ0) sz) ss H locs (cd_pic cA ad ca σ) → lv_has ls 7 [(0, .ref (ad 1 0)), (2, .int l2), (3, .int l3), (4, .int l4), (5, .ref (ad 9 l5))] → W pp l ee ({ frames := 1, cells := 0, slots := 0, locals := 21 }) ss mm [.ref (ad 1 0), .int a1, .int a2].toArray bb mt cd H locs 0 0 (MQ bb (hp_Qi D vwCl (hp_Tl cA) sz (cd_pic cA ad ca0 σ0) (fun r u => r = p.1 ∧ ∃ ca1, cd_inj ad ca1 ∧ u = cd_pic cA ad ca1 p.2)) [.ref (ad 1 0), .int a1, .int a2].toArray ss 0 0 (hp_A (cd_pic cA ad ca0 σ0) sz)) (F0 mm 90 ls [.int t0]) := by
        intro ca hj σ l3 l4 l5 t0 H locs ls hb_l5 h hw hl
        refine lv_istore (lv' := [(6, .int t0), (0, .ref (ad 1 0)), (2, .int l2), (3, .int l3), (4, .int l4), (5, .ref (ad 9 l5))]) cx.1 cx.2.1 dX1_walk_90 hl (by decide) rfl (fun ls hl => ?_)
        refine lv_aload cx.1 cx.2.1 dX1_walk_92 (lv_at hl 5 rfl) ?_
        refine cd_gI (o := 9) (k := 1) (f := 289) hj cx hw hic9 rfl ⟨by decide, rfl, by decide, rfl⟩ rfl (show _ < 60 by omega) (List.mem_cons_of_mem _ cm_77) dX1_walk_94 ?_
        refine lv_iconst (v := 2) cx.1 cx.2.1 dX1_walk_97 (by decide) ?_
        refine lv_icmp_eq (tgt := 106) cx.1 cx.2.1 dX1_walk_98 (by decide) (fun c98 => ?_) (fun c98 => ?_)
        · have h := md_ip c98 h
          refine lv_iconst (v := 1) cx.1 cx.2.1 dX1_walk_106 (by decide) ?_
          exact hp_zret cx hw (cd_ret hj (congrArg some (KR _ (Option.some.inj h).symm))) (by decide) dX1_walk_107
        · have h := md_in c98 h
          refine lv_iload cx.1 cx.2.1 dX1_walk_101 (lv_at hl 0 rfl) ?_
          refine lv_if_eq (tgt := 108) cx.1 cx.2.1 dX1_walk_103 (by decide) (fun c103 => ?_) (fun c103 => ?_)
          · have h := md_ip c103 h
            refine lv_aload_n cx.1 cx.2.1 dX1_walk_108 rfl (lv_at hl 1 rfl) ?_
            refine cd_gO (o2 := 6) (e2 := 5) (o := 1) (k := 4) (f := 36) hj cx hw hic1 rfl ⟨by decide, rfl, by decide, rfl⟩ rfl (by decide) ⟨rfl, rfl⟩ (List.mem_cons_of_mem _ cm_69) dX1_walk_109 ?_
            refine lv_iload_n cx.1 cx.2.1 dX1_walk_112 rfl (lv_at hl 3 rfl) ?_
            refine lv_iconst (v := 3) cx.1 cx.2.1 dX1_walk_113 (by decide) ?_
            refine lv_imul cx.1 cx.2.1 dX1_walk_114 ?_
            refine lv_aload cx.1 cx.2.1 dX1_walk_115 (lv_at hl 5 rfl) ?_
            refine cd_gI (o := 9) (k := 1) (f := 289) hj cx hw hic9 rfl ⟨by decide, rfl, by decide, rfl⟩ rfl (show _ < 60 by omega) (List.mem_cons_of_mem _ cm_77) dX1_walk_117 ?_
            refine lv_iconst (v := 4) cx.1 cx.2.1 dX1_walk_120 (by decide) ?_
            refine lv_icmp_ne (tgt := 128) cx.1 cx.2.1 dX1_walk_121 (by decide) (fun c121 => ?_) (fun c121 => ?_)
            · have h := md_in c121 h
              refine lv_iconst (v := 1) cx.1 cx.2.1 dX1_walk_128 (by decide) ?_
              exact J129 _ hj σ l4 1 ((l3 * 3)) _ _ _ h hw (lv_sub hl [1, 2, 4] rfl)
            · have h := md_ip c121 h
              refine lv_iconst (v := 2) cx.1 cx.2.1 dX1_walk_124 (by decide) ?_
              refine lv_goto (tgt := 129) cx.1 cx.2.1 dX1_walk_125 (by decide) ?_
              exact J129 _ hj σ l4 2 ((l3 * 3)) _ _ _ h hw (lv_sub hl [1, 2, 4] rfl)
          · have h := md_in c103 h
            refine lv_iconst (v := 1) cx.1 cx.2.1 dX1_walk_106 (by decide) ?_
            exact hp_zret cx hw (cd_ret hj (congrArg some (KR _ (Option.some.inj h).symm))) (by decide) dX1_walk_107
      have J89 : ∀ (ca : Nat → Nat) (hj : cd_inj ad ca) (σ : cd_S) (l3 : Int32) (l4 : Int32) (l5 : Nat) (H : Heap) (locs : List Loc) (ls : Array Slot), l5 < 60 → f_X1_walk_J89 n l2 (f_X1_walk_L5 n l2 j) σ l3 l4 l5 = some q → hp_w D vwCl (hp_Tl cA) E (hp_A (cd_pic cA ad ca0 σ0) sz) ss H locs (cd_pic cA ad ca σ) → lv_has ls 7 [(0, .ref (ad 1 0)), (2, .int l2), (3, .int l3), (4, .int l4), (5, .ref (ad 9 l5))] → W pp l ee ({ frames := 1, cells := 0, slots := 0, locals := 21 }) ss mm [.ref (ad 1 0), .int a1, .int a2].toArray bb mt cd H locs 0 0 (MQ bb (hp_Qi D vwCl (hp_Tl cA) sz (cd_pic cA ad ca0 σ0) (fun r u => r = p.1 ∧ ∃ ca1, cd_inj ad ca1 ∧ u = cd_pic cA ad ca1 p.2)) [.ref (ad 1 0), .int a1, .int a2].toArray ss 0 0 (hp_A (cd_pic cA ad ca0 σ0) sz)) (F0 mm 89 ls []) := by
        intro ca hj σ l3 l4 l5 H locs ls hb_l5 h hw hl
        refine lv_iconst (v := 0) cx.1 cx.2.1 dX1_walk_89 (by decide) ?_
        exact J90 _ hj σ l3 l4 l5 0 _ _ _ (by omega) h hw (lv_sub hl [0, 1, 2, 3, 4] rfl)
      refine lv_iload cx.1 cx.2.1 dX1_walk_5 (lv_at hl 3 rfl) ?_
      refine lv_sipush (v := 4000) cx.1 cx.2.1 dX1_walk_7 (by decide) ?_
      refine lv_icmp_gt (tgt := 140) cx.1 cx.2.1 dX1_walk_10 (by decide) (fun c10 => ?_) (fun c10 => ?_)
      · have h := md_ip c10 h
        exact K _ (Option.some.inj h).symm _ hj _ _ _ hw (lv_sub hl [] rfl)
      · have h := md_in c10 h
        refine lv_iload_n cx.1 cx.2.1 dX1_walk_13 rfl (lv_at hl 2 rfl) ?_
        refine lv_iconst (v := (-1)) cx.1 cx.2.1 dX1_walk_14 (by decide) ?_
        refine lv_icmp_eq (tgt := 140) cx.1 cx.2.1 dX1_walk_15 (by decide) (fun c15 => ?_) (fun c15 => ?_)
        · have h := md_ip c15 h
          exact K _ (Option.some.inj h).symm _ hj _ _ _ hw (lv_sub hl [] rfl)
        · have h := md_in c15 h
          refine lv_aload_n cx.1 cx.2.1 dX1_walk_18 rfl (lv_at hl 0 rfl) ?_
          refine lv_dup cx.1 cx.2.1 dX1_walk_19 rfl ?_
          refine cd_gI (o := 1) (k := 14) (f := 46) hj cx hw hic1 rfl ⟨by decide, rfl, by decide, rfl⟩ rfl (by decide) (List.mem_cons_of_mem _ cm_198) dX1_walk_20 ?_
          refine lv_iconst (v := 1) cx.1 cx.2.1 dX1_walk_23 (by decide) ?_
          refine lv_iadd cx.1 cx.2.1 dX1_walk_24 ?_
          obtain ⟨σ2, e_σ2, h⟩ := md_ob h
          refine cd_pI (o := 1) (k := 14) (f := 46) hj cx hw hic1 rfl ⟨by decide, rfl, by decide, rfl⟩ tyX1_ok nmX1 rfl (by decide) rfl (List.mem_cons_of_mem _ cm_198) rfl e_σ2 dX1_walk_25 (fun H locs hw => ?_)
          refine lv_aload_n cx.1 cx.2.1 dX1_walk_28 rfl (lv_at hl 0 rfl) ?_
          refine cd_gO (o2 := 2) (e2 := 0) (o := 1) (k := 0) (f := 32) hj cx hw hic1 rfl ⟨by decide, rfl, by decide, rfl⟩ rfl (by decide) ⟨rfl, rfl⟩ (List.mem_cons_of_mem _ cm_179) dX1_walk_29 ?_
          refine lv_aload_n cx.1 cx.2.1 dX1_walk_32 rfl (lv_at hl 0 rfl) ?_
          refine cd_gO (o2 := 6) (e2 := 5) (o := 1) (k := 4) (f := 36) hj cx hw hic1 rfl ⟨by decide, rfl, by decide, rfl⟩ rfl (by decide) ⟨rfl, rfl⟩ (List.mem_cons_of_mem _ cm_69) dX1_walk_33 ?_
          refine lv_iload_n cx.1 cx.2.1 dX1_walk_36 rfl (lv_at hl 2 rfl) ?_
          refine lv_iconst (v := 3) cx.1 cx.2.1 dX1_walk_37 (by decide) ?_
          refine lv_imul cx.1 cx.2.1 dX1_walk_38 ?_
          obtain ⟨p3, e_p3, h⟩ := md_ob h
          refine hp_callVi (As := [.int (l3 * 3)]) (rest := [.ref (ad 2 0)]) cx hw (kc_X6_at l D cA E _ ad _ hj oq sgq sgv hE n σ2 5 ((l3 * 3)) (by decide) p3 e_p3) (cwV 1 cx.2.2.2.2.2.1 (cd_giV cm_267 cm_17 cm_18 cm_5 cm_19) rfl rfl rfl hdc_X6_at ⟨Nat.le_of_ble_eq_true rfl, Nat.le_of_ble_eq_true rfl⟩) (cd_atO hj (by decide) (by decide)) rfl rfl hl.1 rfl (Nat.le_of_ble_eq_true rfl) dX1_walk_39 ⟨Nat.le_refl _, Nat.le_refl _⟩ (fun r u H locs hp hw => ?_)
          obtain ⟨rfl, ca, hj, rfl⟩ := hp
          obtain ⟨p4, e_p4, h⟩ := md_ob h
          refine hp_callVr (As := [.int p3.1]) (rest := []) cx hw (kc_X2_unitAt l D cA E _ ad _ hj oq sgq sgv hE n p3.2 (p3.1) p4 e_p4) (cwV 1 cx.2.2.2.2.2.1 (cd_giV cm_284 cm_285 cm_286 cm_167 cm_287) rfl rfl rfl hdc_X2_unitAt ⟨Nat.le_of_ble_eq_true rfl, Nat.le_of_ble_eq_true rfl⟩) (cd_atO hj (by decide) (by decide)) rfl rfl hl.1 rfl (Nat.le_of_ble_eq_true rfl) dX1_walk_42 ⟨Nat.le_refl _, Nat.le_refl _⟩ (fun r u H locs hp hw => ?_)
          obtain ⟨⟨hb_p4, rfl⟩, ca, hj, rfl⟩ := hp
          refine lv_astore (lv' := [(5, .ref (ad 9 p4.1)), (0, .ref (ad 1 0)), (2, .int l2), (3, .int l3), (4, .int l4)]) cx.1 cx.2.1 dX1_walk_45 hl (by decide) rfl (fun ls hl => ?_)
          refine lv_iload_n cx.1 cx.2.1 dX1_walk_47 rfl (lv_at hl 2 rfl) ?_
          refine lv_aload cx.1 cx.2.1 dX1_walk_48 (lv_at hl 0 rfl) ?_
          refine cd_gI (o := 9) (k := 3) (f := 291) hj cx hw hic9 rfl ⟨by decide, rfl, by decide, rfl⟩ rfl (show _ < 60 by omega) (List.mem_cons_of_mem _ cm_84) dX1_walk_50 ?_
          refine lv_iushr (v := ((l2.toUInt32 >>> ((cI p4.2 291 (p4.1)).toUInt32 &&& Int32.toUInt32 31)).toInt32)) cx.1 cx.2.1 dX1_walk_53 rfl ?_
          refine lv_iconst (v := 1) cx.1 cx.2.1 dX1_walk_54 (by decide) ?_
          refine lv_iand cx.1 cx.2.1 dX1_walk_55 ?_
          refine lv_if_ne (tgt := 61) cx.1 cx.2.1 dX1_walk_56 (by decide) (fun c56 => ?_) (fun c56 => ?_)
          · have h := md_in c56 h
            refine lv_aload cx.1 cx.2.1 dX1_walk_61 (lv_at hl 0 rfl) ?_
            refine cd_gI (o := 9) (k := 1) (f := 289) hj cx hw hic9 rfl ⟨by decide, rfl, by decide, rfl⟩ rfl (show _ < 60 by omega) (List.mem_cons_of_mem _ cm_77) dX1_walk_63 ?_
            refine lv_iconst (v := 3) cx.1 cx.2.1 dX1_walk_66 (by decide) ?_
            refine lv_icmp_ne (tgt := 89) cx.1 cx.2.1 dX1_walk_67 (by decide) (fun c67 => ?_) (fun c67 => ?_)
            · have h := md_in c67 h
              exact J89 _ hj p4.2 l3 l4 (p4.1) _ _ _ (by omega) h hw (lv_sub hl [1, 2, 3, 4, 0] rfl)
            · have h := md_ip c67 h
              refine lv_iload_n cx.1 cx.2.1 dX1_walk_70 rfl (lv_at hl 2 rfl) ?_
              refine lv_bipush (v := 8) cx.1 cx.2.1 dX1_walk_71 (by decide) ?_
              refine lv_aload cx.1 cx.2.1 dX1_walk_73 (lv_at hl 0 rfl) ?_
              refine cd_gI (o := 9) (k := 8) (f := 296) hj cx hw hic9 rfl ⟨by decide, rfl, by decide, rfl⟩ rfl (show _ < 60 by omega) (List.mem_cons_of_mem _ cm_82) dX1_walk_75 ?_
              refine lv_iadd cx.1 cx.2.1 dX1_walk_78 ?_
              refine lv_iushr (v := ((l2.toUInt32 >>> (((8 : Int32) + (cI p4.2 296 (p4.1))).toUInt32 &&& Int32.toUInt32 31)).toInt32)) cx.1 cx.2.1 dX1_walk_79 rfl ?_
              refine lv_iconst (v := 1) cx.1 cx.2.1 dX1_walk_80 (by decide) ?_
              refine lv_iand cx.1 cx.2.1 dX1_walk_81 ?_
              refine lv_if_eq (tgt := 89) cx.1 cx.2.1 dX1_walk_82 (by decide) (fun c82 => ?_) (fun c82 => ?_)
              · have h := md_ip c82 h
                exact J89 _ hj p4.2 l3 l4 (p4.1) _ _ _ (by omega) h hw (lv_sub hl [1, 2, 3, 4, 0] rfl)
              · have h := md_in c82 h
                refine lv_iconst (v := 1) cx.1 cx.2.1 dX1_walk_85 (by decide) ?_
                refine lv_goto (tgt := 90) cx.1 cx.2.1 dX1_walk_86 (by decide) ?_
                exact J90 _ hj p4.2 l3 l4 (p4.1) 1 _ _ _ (by omega) h hw (lv_sub hl [1, 2, 3, 4, 0] rfl)
          · have h := md_ip c56 h
            refine lv_iconst (v := 0) cx.1 cx.2.1 dX1_walk_59 (by decide) ?_
            exact hp_zret cx hw (cd_ret hj (congrArg some (KR _ (Option.some.inj h).symm))) (by decide) dX1_walk_60
  obtain ⟨q5, e_q5, h⟩ := md_ob h
  refine L5 n _ hj σ0 a2 a1 0 q5 _ _ _ e_q5 hw (lv_sub hl [2, 4, 1, 0] rfl) (fun t5 hq5 ca hj H locs ls hw hl => ?_) (fun r hr => by subst hr; exact Option.some.inj h)
  subst hq5
  have h := md_inr h
  refine lv_iconst (v := 1) cx.1 cx.2.1 dX1_walk_140 (by decide) ?_
  exact hp_zret cx hw (cd_ret hj h) (by decide) dX1_walk_141
set_option maxHeartbeats 4000000 in
set_option maxRecDepth 100000 in
theorem kc_X10_codeWith (l : Launch) (D : va_G) (cA : Nat → ClassId) (E : hp_N) (sz : Nat) (ad : Nat → Nat → Nat) (ca0 : Nat → Nat) (hj : cd_inj ad ca0) (oq sgq sgv : Nat) (hE : cd_E E oq sgq sgv) (n : Nat) (σ0 : cd_S) (a0 : Int64) (a2 : Int32) (p : (Int64 × cd_S)) (h : f_X10_codeWith n σ0 a0 a2 = some p) : Met l yX10_codeWith (Cond.code yX10_codeWith cX10_codeWith 3 (some .long) :: v_CLS) ({ frames := 0, cells := 0, slots := 0, locals := 0 }) (hp_Pc D vwCl (hp_Tl cA) E sz (cd_pic cA ad ca0 σ0) [.long a0, .int a2]) (hp_Ql D vwCl (hp_Tl cA) sz (cd_pic cA ad ca0 σ0) (fun r u => r = p.1 ∧ ∃ ca1, cd_inj ad ca1 ∧ u = cd_pic cA ad ca1 p.2)) 0 0 (hp_A (cd_pic cA ad ca0 σ0) sz) := by
  refine hp_ofW (cc := cX10_codeWith) (maxL := 3) (ret := (some .long)) (by decide) rfl (Nat.le_of_ble_eq_true rfl) ?_
  intro pp ee ss mm bb mt cd ls cx hsz hw hl
  have hl : lv_has ls 3 [(0, .long a0), (2, .int a2)] := hl
  have J26 : ∀ (ca : Nat → Nat) (hj : cd_inj ad ca) (σ : cd_S) (t0 : Int32) (t1 : Int64) (H : Heap) (locs : List Loc) (ls : Array Slot), f_X10_codeWith_J26 n σ t0 t1 = some p → hp_w D vwCl (hp_Tl cA) E (hp_A (cd_pic cA ad ca0 σ0) sz) ss H locs (cd_pic cA ad ca σ) → lv_has ls 3 [] → W pp l ee ({ frames := 0, cells := 0, slots := 0, locals := 0 }) ss mm [.long a0, .int a2].toArray bb mt cd H locs 0 0 (MQ bb (hp_Ql D vwCl (hp_Tl cA) sz (cd_pic cA ad ca0 σ0) (fun r u => r = p.1 ∧ ∃ ca1, cd_inj ad ca1 ∧ u = cd_pic cA ad ca1 p.2)) [.long a0, .int a2].toArray ss 0 0 (hp_A (cd_pic cA ad ca0 σ0) sz)) (F0 mm 26 ls [.int t0, .long t1]) := by
    intro ca hj σ t0 t1 H locs ls h hw hl
    refine lv_i2l (v := (t0.toInt64)) cx.1 cx.2.1 dX10_codeWith_26 rfl ?_
    refine lv_lor cx.1 cx.2.1 dX10_codeWith_27 ?_
    exact hp_lret cx hw (cd_ret hj h) dX10_codeWith_28
  refine lv_lload_n cx.1 cx.2.1 dX10_codeWith_0 rfl (lv_at hl 0 rfl) ?_
  refine lv_bipush (v := 6) cx.1 cx.2.1 dX10_codeWith_1 (by decide) ?_
  refine lv_lshl (v := (a0 <<< ((6 : Int32).toInt64 &&& 63))) cx.1 cx.2.1 dX10_codeWith_3 rfl ?_
  refine lv_iload_n cx.1 cx.2.1 dX10_codeWith_4 rfl (lv_at hl 1 rfl) ?_
  refine lv_bipush (v := 97) cx.1 cx.2.1 dX10_codeWith_5 (by decide) ?_
  refine lv_icmp_lt (tgt := 19) cx.1 cx.2.1 dX10_codeWith_7 (by decide) (fun c7 => ?_) (fun c7 => ?_)
  · have h := md_ip c7 h
    refine lv_iload_n cx.1 cx.2.1 dX10_codeWith_19 rfl (lv_at hl 1 rfl) ?_
    refine lv_bipush (v := 48) cx.1 cx.2.1 dX10_codeWith_20 (by decide) ?_
    refine lv_isub cx.1 cx.2.1 dX10_codeWith_22 ?_
    refine lv_bipush (v := 27) cx.1 cx.2.1 dX10_codeWith_23 (by decide) ?_
    refine lv_iadd cx.1 cx.2.1 dX10_codeWith_25 ?_
    exact J26 _ hj σ0 (((a2 - 48) + 27)) ((a0 <<< ((6 : Int32).toInt64 &&& 63))) _ _ _ h hw (lv_sub hl [] rfl)
  · have h := md_in c7 h
    refine lv_iload_n cx.1 cx.2.1 dX10_codeWith_10 rfl (lv_at hl 1 rfl) ?_
    refine lv_bipush (v := 97) cx.1 cx.2.1 dX10_codeWith_11 (by decide) ?_
    refine lv_isub cx.1 cx.2.1 dX10_codeWith_13 ?_
    refine lv_iconst (v := 1) cx.1 cx.2.1 dX10_codeWith_14 (by decide) ?_
    refine lv_iadd cx.1 cx.2.1 dX10_codeWith_15 ?_
    refine lv_goto (tgt := 26) cx.1 cx.2.1 dX10_codeWith_16 (by decide) ?_
    exact J26 _ hj σ0 (((a2 - 97) + 1)) ((a0 <<< ((6 : Int32).toInt64 &&& 63))) _ _ _ h hw (lv_sub hl [] rfl)
set_option maxHeartbeats 4000000 in
set_option maxRecDepth 100000 in
theorem kc_X5_addStep (l : Launch) (D : va_G) (cA : Nat → ClassId) (E : hp_N) (sz : Nat) (ad : Nat → Nat → Nat) (ca0 : Nat → Nat) (hj : cd_inj ad ca0) (oq sgq sgv : Nat) (hE : cd_E E oq sgq sgv) (n : Nat) (σ0 : cd_S) (a0 : Nat) (a1 : Int64) (hb_a0 : a0 < 196) (p : (Int32 × cd_S)) (h : f_X5_addStep n σ0 a0 a1 = some p) : Met l yX5_addStep (Cond.code yX5_addStep cX5_addStep 3 none :: v_CLS) ({ frames := 0, cells := 0, slots := 0, locals := 0 }) (hp_Pc D vwCl (hp_Tl cA) E sz (cd_pic cA ad ca0 σ0) [.ref (ad 5 a0), .long a1]) (hp_Qv D vwCl (hp_Tl cA) sz (cd_pic cA ad ca0 σ0) (fun u => ∃ ca1, cd_inj ad ca1 ∧ u = cd_pic cA ad ca1 p.2)) 0 0 (hp_A (cd_pic cA ad ca0 σ0) sz) := by
  refine hp_ofW (cc := cX5_addStep) (maxL := 3) (ret := none) (by decide) rfl (Nat.le_of_ble_eq_true rfl) ?_
  intro pp ee ss mm bb mt cd ls cx hsz hw hl
  have hl : lv_has ls 3 [(0, .ref (ad 5 a0)), (1, .long a1)] := hl
  refine lv_aload_n cx.1 cx.2.1 dX5_addStep_0 rfl (lv_at hl 0 rfl) ?_
  refine cd_gI (o := 5) (k := 2) (f := 162) hj cx hw hic5 rfl ⟨by decide, rfl, by decide, rfl⟩ rfl (show _ < 196 by omega) (List.mem_cons_of_mem _ cm_297) dX5_addStep_1 ?_
  refine lv_if_lt (tgt := 35) cx.1 cx.2.1 dX5_addStep_4 (by decide) (fun c4 => ?_) (fun c4 => ?_)
  · have h := md_ip c4 h
    exact hp_vret cx hw ((cd_ret hj h).2) dX5_addStep_35
  · have h := md_in c4 h
    refine lv_aload_n cx.1 cx.2.1 dX5_addStep_7 rfl (lv_at hl 0 rfl) ?_
    refine cd_gI (o := 5) (k := 2) (f := 162) hj cx hw hic5 rfl ⟨by decide, rfl, by decide, rfl⟩ rfl (show _ < 196 by omega) (List.mem_cons_of_mem _ cm_297) dX5_addStep_8 ?_
    refine lv_iconst (v := 5) cx.1 cx.2.1 dX5_addStep_11 (by decide) ?_
    refine lv_icmp_ge (tgt := 35) cx.1 cx.2.1 dX5_addStep_12 (by decide) (fun c12 => ?_) (fun c12 => ?_)
    · have h := md_ip c12 h
      exact hp_vret cx hw ((cd_ret hj h).2) dX5_addStep_35
    · have h := md_in c12 h
      refine lv_aload_n cx.1 cx.2.1 dX5_addStep_15 rfl (lv_at hl 0 rfl) ?_
      refine cd_gA (o := 5) (k := 1) (f := 161) hj cx hw hic5 rfl ⟨by decide, rfl, by decide, rfl⟩ rfl (show _ < 196 by omega) (List.mem_cons_of_mem _ cm_298) dX5_addStep_16 ?_
      refine lv_aload_n cx.1 cx.2.1 dX5_addStep_19 rfl (lv_at hl 0 rfl) ?_
      refine cd_gI (o := 5) (k := 2) (f := 162) hj cx hw hic5 rfl ⟨by decide, rfl, by decide, rfl⟩ rfl (show _ < 196 by omega) (List.mem_cons_of_mem _ cm_297) dX5_addStep_20 ?_
      refine lv_lload_n cx.1 cx.2.1 dX5_addStep_23 rfl (lv_at hl 1 rfl) ?_
      obtain ⟨σ1, e_σ1, h⟩ := md_ob h
      refine cd_sJ (f := 161) hj cx hw (by decide) (show _ < 196 by omega) rfl e_σ1 dX5_addStep_24 (fun H locs hw => ?_)
      refine lv_aload_n cx.1 cx.2.1 dX5_addStep_25 rfl (lv_at hl 0 rfl) ?_
      refine lv_dup cx.1 cx.2.1 dX5_addStep_26 rfl ?_
      refine cd_gI (o := 5) (k := 2) (f := 162) hj cx hw hic5 rfl ⟨by decide, rfl, by decide, rfl⟩ rfl (show _ < 196 by omega) (List.mem_cons_of_mem _ cm_297) dX5_addStep_27 ?_
      refine lv_iconst (v := 1) cx.1 cx.2.1 dX5_addStep_30 (by decide) ?_
      refine lv_iadd cx.1 cx.2.1 dX5_addStep_31 ?_
      obtain ⟨σ2, e_σ2, h⟩ := md_ob h
      refine cd_pI (o := 5) (k := 2) (f := 162) hj cx hw hic5 rfl ⟨by decide, rfl, by decide, rfl⟩ tyX5_ok nmX5 rfl (show _ < 196 by omega) rfl (List.mem_cons_of_mem _ cm_297) rfl e_σ2 dX5_addStep_32 (fun H locs hw => ?_)
      exact hp_vret cx hw ((cd_ret hj h).2) dX5_addStep_35
set_option maxHeartbeats 4000000 in
set_option maxRecDepth 100000 in
theorem kc_X5_addDigits (l : Launch) (D : va_G) (cA : Nat → ClassId) (E : hp_N) (sz : Nat) (ad : Nat → Nat → Nat) (ca0 : Nat → Nat) (hj : cd_inj ad ca0) (oq sgq sgv : Nat) (hE : cd_E E oq sgq sgv) (n : Nat) (σ0 : cd_S) (a0 : Nat) (a1 : Int32) (hb_a0 : a0 < 196) (p : (Int32 × cd_S)) (h : f_X5_addDigits n σ0 a0 a1 = some p) : Met l yX5_addDigits (Cond.code yX5_addDigits cX5_addDigits 5 none :: v_CLS) ({ frames := 1, cells := 0, slots := 0, locals := 22 }) (hp_Pc D vwCl (hp_Tl cA) E sz (cd_pic cA ad ca0 σ0) [.ref (ad 5 a0), .int a1]) (hp_Qv D vwCl (hp_Tl cA) sz (cd_pic cA ad ca0 σ0) (fun u => ∃ ca1, cd_inj ad ca1 ∧ u = cd_pic cA ad ca1 p.2)) 0 0 (hp_A (cd_pic cA ad ca0 σ0) sz) := by
  refine hp_ofW (cc := cX5_addDigits) (maxL := 5) (ret := none) (by decide) rfl (Nat.le_of_ble_eq_true rfl) ?_
  intro pp ee ss mm bb mt cd ls cx hsz hw hl
  have hl : lv_has ls 5 [(0, .ref (ad 5 a0)), (1, .int a1)] := hl
  refine lv_lconst (v := 0) cx.1 cx.2.1 dX5_addDigits_0 (by decide) ?_
  refine lv_lstore_n (lv' := [(2, .long 0), (0, .ref (ad 5 a0)), (1, .int a1)]) cx.1 cx.2.1 dX5_addDigits_1 rfl hl (by decide) rfl (fun ls hl => ?_)
  refine lv_bipush (v := 100) cx.1 cx.2.1 dX5_addDigits_2 (by decide) ?_
  refine lv_istore (lv' := [(4, .int 100), (2, .long 0), (0, .ref (ad 5 a0)), (1, .int a1)]) cx.1 cx.2.1 dX5_addDigits_4 hl (by decide) rfl (fun ls hl => ?_)
  have L6 : ∀ (j : Nat) (ca : Nat → Nat) (hj : cd_inj ad ca) (σ : cd_S) (l1 : Int32) (l2 : Int64) (l4 : Int32) (q : (cd_S × Int64 × Int32)) (H : Heap) (locs : List Loc) (ls : Array Slot), f_X5_addDigits_L6 n a0 l1 j σ l2 l4 = some q → hp_w D vwCl (hp_Tl cA) E (hp_A (cd_pic cA ad ca0 σ0) sz) ss H locs (cd_pic cA ad ca σ) → lv_has ls 5 [(0, .ref (ad 5 a0)), (1, .int l1), (2, .long l2), (4, .int l4)] → (∀ (ca : Nat → Nat) (hj : cd_inj ad ca) (H : Heap) (locs : List Loc) (ls : Array Slot), hp_w D vwCl (hp_Tl cA) E (hp_A (cd_pic cA ad ca0 σ0) sz) ss H locs (cd_pic cA ad ca q.1) → lv_has ls 5 [(0, .ref (ad 5 a0)), (2, .long q.2.1)] → W pp l ee ({ frames := 1, cells := 0, slots := 0, locals := 22 }) ss mm [.ref (ad 5 a0), .int a1].toArray bb mt cd H locs 0 0 (MQ bb (hp_Qv D vwCl (hp_Tl cA) sz (cd_pic cA ad ca0 σ0) (fun u => ∃ ca1, cd_inj ad ca1 ∧ u = cd_pic cA ad ca1 p.2)) [.ref (ad 5 a0), .int a1].toArray ss 0 0 (hp_A (cd_pic cA ad ca0 σ0) sz)) (F0 mm 48 ls [])) → W pp l ee ({ frames := 1, cells := 0, slots := 0, locals := 22 }) ss mm [.ref (ad 5 a0), .int a1].toArray bb mt cd H locs 0 0 (MQ bb (hp_Qv D vwCl (hp_Tl cA) sz (cd_pic cA ad ca0 σ0) (fun u => ∃ ca1, cd_inj ad ca1 ∧ u = cd_pic cA ad ca1 p.2)) [.ref (ad 5 a0), .int a1].toArray ss 0 0 (hp_A (cd_pic cA ad ca0 σ0) sz)) (F0 mm 6 ls []) := by
    intro j
    induction j with
    | zero => intro ca hj σ l1 l2 l4 q H locs ls h; exact nomatch h
    | succ j ih =>
      intro ca hj σ l1 l2 l4 q H locs ls h hw hl K
      unfold f_X5_addDigits_L6 at h
      have J38 : ∀ (ca : Nat → Nat) (hj : cd_inj ad ca) (σ : cd_S) (l2 : Int64) (l4 : Int32) (H : Heap) (locs : List Loc) (ls : Array Slot), f_X5_addDigits_J38 n a0 l1 (f_X5_addDigits_L6 n a0 l1 j) σ l2 l4 = some q → hp_w D vwCl (hp_Tl cA) E (hp_A (cd_pic cA ad ca0 σ0) sz) ss H locs (cd_pic cA ad ca σ) → lv_has ls 5 [(0, .ref (ad 5 a0)), (1, .int l1), (2, .long l2), (4, .int l4)] → W pp l ee ({ frames := 1, cells := 0, slots := 0, locals := 22 }) ss mm [.ref (ad 5 a0), .int a1].toArray bb mt cd H locs 0 0 (MQ bb (hp_Qv D vwCl (hp_Tl cA) sz (cd_pic cA ad ca0 σ0) (fun u => ∃ ca1, cd_inj ad ca1 ∧ u = cd_pic cA ad ca1 p.2)) [.ref (ad 5 a0), .int a1].toArray ss 0 0 (hp_A (cd_pic cA ad ca0 σ0) sz)) (F0 mm 38 ls []) := by
        intro ca hj σ l2 l4 H locs ls h hw hl
        refine lv_iload cx.1 cx.2.1 dX5_addDigits_38 (lv_at hl 3 rfl) ?_
        refine lv_bipush (v := 10) cx.1 cx.2.1 dX5_addDigits_40 (by decide) ?_
        refine lv_idiv cx.1 cx.2.1 dX5_addDigits_42 (by decide) ?_
        refine lv_istore (lv' := [(4, .int (l4 / ((10 : Int32)))), (0, .ref (ad 5 a0)), (1, .int l1), (2, .long l2)]) cx.1 cx.2.1 dX5_addDigits_43 hl (by decide) rfl (fun ls hl => ?_)
        refine lv_goto (tgt := 6) cx.1 cx.2.1 dX5_addDigits_45 (by decide) ?_
        exact ih _ hj σ l1 l2 ((l4 / ((10 : Int32)))) q _ _ _ h hw (lv_sub hl [1, 2, 3, 0] rfl) K
      have J23 : ∀ (ca : Nat → Nat) (hj : cd_inj ad ca) (σ : cd_S) (l2 : Int64) (l4 : Int32) (H : Heap) (locs : List Loc) (ls : Array Slot), f_X5_addDigits_J23 n a0 l1 (f_X5_addDigits_L6 n a0 l1 j) σ l2 l4 = some q → hp_w D vwCl (hp_Tl cA) E (hp_A (cd_pic cA ad ca0 σ0) sz) ss H locs (cd_pic cA ad ca σ) → lv_has ls 5 [(0, .ref (ad 5 a0)), (1, .int l1), (2, .long l2), (4, .int l4)] → W pp l ee ({ frames := 1, cells := 0, slots := 0, locals := 22 }) ss mm [.ref (ad 5 a0), .int a1].toArray bb mt cd H locs 0 0 (MQ bb (hp_Qv D vwCl (hp_Tl cA) sz (cd_pic cA ad ca0 σ0) (fun u => ∃ ca1, cd_inj ad ca1 ∧ u = cd_pic cA ad ca1 p.2)) [.ref (ad 5 a0), .int a1].toArray ss 0 0 (hp_A (cd_pic cA ad ca0 σ0) sz)) (F0 mm 23 ls []) := by
        intro ca hj σ l2 l4 H locs ls h hw hl
        refine lv_lload_n cx.1 cx.2.1 dX5_addDigits_23 rfl (lv_at hl 2 rfl) ?_
        refine lv_bipush (v := 48) cx.1 cx.2.1 dX5_addDigits_24 (by decide) ?_
        refine lv_iload_n cx.1 cx.2.1 dX5_addDigits_26 rfl (lv_at hl 1 rfl) ?_
        refine lv_iload cx.1 cx.2.1 dX5_addDigits_27 (lv_at hl 3 rfl) ?_
        obtain ⟨z1, e_z1, h⟩ := md_ob h
        refine lv_idiv cx.1 cx.2.1 dX5_addDigits_29 (md_nzs e_z1) ?_
        refine lv_bipush (v := 10) cx.1 cx.2.1 dX5_addDigits_30 (by decide) ?_
        refine lv_irem cx.1 cx.2.1 dX5_addDigits_32 (by decide) ?_
        refine lv_iadd cx.1 cx.2.1 dX5_addDigits_33 ?_
        obtain ⟨p2, e_p2, h⟩ := md_ob h
        refine hp_callSl (As := [.long l2, .int ((48 : Int32) + (((l1 / l4)) - ((l1 / l4)) / ((10 : Int32)) * ((10 : Int32))))]) (rest := []) cx hw (kc_X10_codeWith l D cA E _ ad _ hj oq sgq sgv hE n σ l2 (((48 : Int32) + (((l1 / l4)) - ((l1 / l4)) / ((10 : Int32)) * ((10 : Int32))))) p2 e_p2) (va_cwS 2 cx.2.2.2.2.2.1 (cd_giS cm_299 cm_300 cm_301 cm_302) rfl rfl rfl (cd_hdS hdc_X10_codeWith) ⟨Nat.le_of_ble_eq_true rfl, Nat.le_of_ble_eq_true rfl⟩) rfl hl.1 rfl (Nat.le_of_ble_eq_true rfl) dX5_addDigits_34 ⟨Nat.le_refl _, Nat.le_refl _⟩ (fun r u H locs hp hw => ?_)
        obtain ⟨rfl, ca, hj, rfl⟩ := hp
        refine lv_lstore_n (lv' := [(2, .long p2.1), (0, .ref (ad 5 a0)), (1, .int l1), (4, .int l4)]) cx.1 cx.2.1 dX5_addDigits_37 rfl hl (by decide) rfl (fun ls hl => ?_)
        exact J38 _ hj p2.2 (p2.1) l4 _ _ _ h hw (lv_sub hl [1, 2, 0, 3] rfl)
      refine lv_iload cx.1 cx.2.1 dX5_addDigits_6 (lv_at hl 3 rfl) ?_
      refine lv_if_le (tgt := 48) cx.1 cx.2.1 dX5_addDigits_8 (by decide) (fun c8 => ?_) (fun c8 => ?_)
      · have h := md_ip c8 h
        obtain rfl := Option.some.inj h
        exact K _ hj _ _ _ hw (lv_sub hl [0, 2] rfl)
      · have h := md_in c8 h
        refine lv_iload_n cx.1 cx.2.1 dX5_addDigits_11 rfl (lv_at hl 1 rfl) ?_
        refine lv_iload cx.1 cx.2.1 dX5_addDigits_12 (lv_at hl 3 rfl) ?_
        refine lv_icmp_ge (tgt := 23) cx.1 cx.2.1 dX5_addDigits_14 (by decide) (fun c14 => ?_) (fun c14 => ?_)
        · have h := md_ip c14 h
          exact J23 _ hj σ l2 l4 _ _ _ h hw (lv_sub hl [0, 1, 2, 3] rfl)
        · have h := md_in c14 h
          refine lv_iload cx.1 cx.2.1 dX5_addDigits_17 (lv_at hl 3 rfl) ?_
          refine lv_iconst (v := 1) cx.1 cx.2.1 dX5_addDigits_19 (by decide) ?_
          refine lv_icmp_ne (tgt := 38) cx.1 cx.2.1 dX5_addDigits_20 (by decide) (fun c20 => ?_) (fun c20 => ?_)
          · have h := md_in c20 h
            exact J38 _ hj σ l2 l4 _ _ _ h hw (lv_sub hl [0, 1, 2, 3] rfl)
          · have h := md_ip c20 h
            exact J23 _ hj σ l2 l4 _ _ _ h hw (lv_sub hl [0, 1, 2, 3] rfl)
  obtain ⟨q3, e_q3, h⟩ := md_ob h
  refine L6 n _ hj σ0 a1 0 100 q3 _ _ _ e_q3 hw (lv_sub hl [2, 3, 1, 0] rfl) (fun ca hj H locs ls hw hl => ?_)
  refine lv_aload_n cx.1 cx.2.1 dX5_addDigits_48 rfl (lv_at hl 0 rfl) ?_
  refine lv_lload_n cx.1 cx.2.1 dX5_addDigits_49 rfl (lv_at hl 1 rfl) ?_
  obtain ⟨p4, e_p4, h⟩ := md_ob h
  refine hp_callVv (As := [.long q3.2.1]) (rest := []) cx hw (kc_X5_addStep l D cA E _ ad _ hj oq sgq sgv hE n q3.1 a0 (q3.2.1) (show _ < 196 by omega) p4 e_p4) (cwV 1 cx.2.2.2.2.2.1 (cd_giV cm_303 cm_304 cm_305 cm_306 cm_307) rfl rfl rfl hdc_X5_addStep ⟨Nat.le_of_ble_eq_true rfl, Nat.le_of_ble_eq_true rfl⟩) (cd_atO hj (by decide) (show _ < 196 by omega)) rfl rfl hl.1 rfl (Nat.le_of_ble_eq_true rfl) dX5_addDigits_50 ⟨Nat.le_refl _, Nat.le_refl _⟩ (fun u H locs hp hw => ?_)
  obtain ⟨ca, hj, rfl⟩ := hp
  exact hp_vret cx hw ((cd_ret hj h).2) dX5_addDigits_53
set_option maxHeartbeats 4000000 in
set_option maxRecDepth 100000 in
theorem kc_X5_take (l : Launch) (D : va_G) (cA : Nat → ClassId) (E : hp_N) (sz : Nat) (ad : Nat → Nat → Nat) (ca0 : Nat → Nat) (hj : cd_inj ad ca0) (oq sgq sgv : Nat) (hE : cd_E E oq sgq sgv) (n : Nat) (σ0 : cd_S) (a0 : Nat) (a1 : Nat) (hb_a0 : a0 < 196) (hb_a1 : a1 < 196) (p : (Int32 × cd_S)) (h : f_X5_take n σ0 a0 a1 = some p) : Met l yX5_take (Cond.code yX5_take cX5_take 3 none :: v_CLS) ({ frames := 0, cells := 0, slots := 0, locals := 0 }) (hp_Pc D vwCl (hp_Tl cA) E sz (cd_pic cA ad ca0 σ0) [.ref (ad 5 a0), .ref (ad 5 a1)]) (hp_Qv D vwCl (hp_Tl cA) sz (cd_pic cA ad ca0 σ0) (fun u => ∃ ca1, cd_inj ad ca1 ∧ u = cd_pic cA ad ca1 p.2)) 0 0 (hp_A (cd_pic cA ad ca0 σ0) sz) := by
  refine hp_ofW (cc := cX5_take) (maxL := 3) (ret := none) (by decide) rfl (Nat.le_of_ble_eq_true rfl) ?_
  intro pp ee ss mm bb mt cd ls cx hsz hw hl
  have hl : lv_has ls 3 [(0, .ref (ad 5 a0)), (1, .ref (ad 5 a1))] := hl
  refine lv_aload_n cx.1 cx.2.1 dX5_take_0 rfl (lv_at hl 0 rfl) ?_
  refine lv_aload_n cx.1 cx.2.1 dX5_take_1 rfl (lv_at hl 1 rfl) ?_
  refine cd_gJ (o := 5) (k := 0) (f := 160) hj cx hw hic5 rfl ⟨by decide, rfl, by decide, rfl⟩ rfl (show _ < 196 by omega) (List.mem_cons_of_mem _ cm_308) dX5_take_2 ?_
  obtain ⟨σ1, e_σ1, h⟩ := md_ob h
  refine cd_pJ (o := 5) (k := 0) (f := 160) hj cx hw hic5 rfl ⟨by decide, rfl, by decide, rfl⟩ tyX5_ok nmX5 rfl (show _ < 196 by omega) rfl (List.mem_cons_of_mem _ cm_308) rfl e_σ1 dX5_take_5 (fun H locs hw => ?_)
  refine lv_aload_n cx.1 cx.2.1 dX5_take_8 rfl (lv_at hl 0 rfl) ?_
  refine lv_aload_n cx.1 cx.2.1 dX5_take_9 rfl (lv_at hl 1 rfl) ?_
  refine cd_gI (o := 5) (k := 3) (f := 163) hj cx hw hic5 rfl ⟨by decide, rfl, by decide, rfl⟩ rfl (show _ < 196 by omega) (List.mem_cons_of_mem _ cm_309) dX5_take_10 ?_
  obtain ⟨σ2, e_σ2, h⟩ := md_ob h
  refine cd_pI (o := 5) (k := 3) (f := 163) hj cx hw hic5 rfl ⟨by decide, rfl, by decide, rfl⟩ tyX5_ok nmX5 rfl (show _ < 196 by omega) rfl (List.mem_cons_of_mem _ cm_309) rfl e_σ2 dX5_take_13 (fun H locs hw => ?_)
  refine lv_aload_n cx.1 cx.2.1 dX5_take_16 rfl (lv_at hl 0 rfl) ?_
  refine lv_aload_n cx.1 cx.2.1 dX5_take_17 rfl (lv_at hl 1 rfl) ?_
  refine cd_gI (o := 5) (k := 2) (f := 162) hj cx hw hic5 rfl ⟨by decide, rfl, by decide, rfl⟩ rfl (show _ < 196 by omega) (List.mem_cons_of_mem _ cm_297) dX5_take_18 ?_
  obtain ⟨σ3, e_σ3, h⟩ := md_ob h
  refine cd_pI (o := 5) (k := 2) (f := 162) hj cx hw hic5 rfl ⟨by decide, rfl, by decide, rfl⟩ tyX5_ok nmX5 rfl (show _ < 196 by omega) rfl (List.mem_cons_of_mem _ cm_297) rfl e_σ3 dX5_take_21 (fun H locs hw => ?_)
  refine lv_iconst (v := 0) cx.1 cx.2.1 dX5_take_24 (by decide) ?_
  refine lv_istore_n (lv' := [(2, .int 0), (0, .ref (ad 5 a0)), (1, .ref (ad 5 a1))]) cx.1 cx.2.1 dX5_take_25 rfl hl (by decide) rfl (fun ls hl => ?_)
  have L26 : ∀ (j : Nat) (ca : Nat → Nat) (hj : cd_inj ad ca) (σ : cd_S) (l2 : Int32) (q : (cd_S × Int32)) (H : Heap) (locs : List Loc) (ls : Array Slot), f_X5_take_L26 n a0 a1 j σ l2 = some q → hp_w D vwCl (hp_Tl cA) E (hp_A (cd_pic cA ad ca0 σ0) sz) ss H locs (cd_pic cA ad ca σ) → lv_has ls 3 [(0, .ref (ad 5 a0)), (1, .ref (ad 5 a1)), (2, .int l2)] → (∀ (ca : Nat → Nat) (hj : cd_inj ad ca) (H : Heap) (locs : List Loc) (ls : Array Slot), hp_w D vwCl (hp_Tl cA) E (hp_A (cd_pic cA ad ca0 σ0) sz) ss H locs (cd_pic cA ad ca q.1) → lv_has ls 3 [] → W pp l ee ({ frames := 0, cells := 0, slots := 0, locals := 0 }) ss mm [.ref (ad 5 a0), .ref (ad 5 a1)].toArray bb mt cd H locs 0 0 (MQ bb (hp_Qv D vwCl (hp_Tl cA) sz (cd_pic cA ad ca0 σ0) (fun u => ∃ ca1, cd_inj ad ca1 ∧ u = cd_pic cA ad ca1 p.2)) [.ref (ad 5 a0), .ref (ad 5 a1)].toArray ss 0 0 (hp_A (cd_pic cA ad ca0 σ0) sz)) (F0 mm 49 ls [])) → W pp l ee ({ frames := 0, cells := 0, slots := 0, locals := 0 }) ss mm [.ref (ad 5 a0), .ref (ad 5 a1)].toArray bb mt cd H locs 0 0 (MQ bb (hp_Qv D vwCl (hp_Tl cA) sz (cd_pic cA ad ca0 σ0) (fun u => ∃ ca1, cd_inj ad ca1 ∧ u = cd_pic cA ad ca1 p.2)) [.ref (ad 5 a0), .ref (ad 5 a1)].toArray ss 0 0 (hp_A (cd_pic cA ad ca0 σ0) sz)) (F0 mm 26 ls []) := by
    intro j
    induction j with
    | zero => intro ca hj σ l2 q H locs ls h; exact nomatch h
    | succ j ih =>
      intro ca hj σ l2 q H locs ls h hw hl K
      unfold f_X5_take_L26 at h
      refine lv_iload_n cx.1 cx.2.1 dX5_take_26 rfl (lv_at hl 2 rfl) ?_
      refine lv_iconst (v := 5) cx.1 cx.2.1 dX5_take_27 (by decide) ?_
      refine lv_icmp_ge (tgt := 49) cx.1 cx.2.1 dX5_take_28 (by decide) (fun c28 => ?_) (fun c28 => ?_)
      · have h := md_ip c28 h
        obtain rfl := Option.some.inj h
        exact K _ hj _ _ _ hw (lv_sub hl [] rfl)
      · have h := md_in c28 h
        refine lv_aload_n cx.1 cx.2.1 dX5_take_31 rfl (lv_at hl 0 rfl) ?_
        refine cd_gA (o := 5) (k := 1) (f := 161) hj cx hw hic5 rfl ⟨by decide, rfl, by decide, rfl⟩ rfl (show _ < 196 by omega) (List.mem_cons_of_mem _ cm_298) dX5_take_32 ?_
        refine lv_iload_n cx.1 cx.2.1 dX5_take_35 rfl (lv_at hl 2 rfl) ?_
        refine lv_aload_n cx.1 cx.2.1 dX5_take_36 rfl (lv_at hl 1 rfl) ?_
        refine cd_gA (o := 5) (k := 1) (f := 161) hj cx hw hic5 rfl ⟨by decide, rfl, by decide, rfl⟩ rfl (show _ < 196 by omega) (List.mem_cons_of_mem _ cm_298) dX5_take_37 ?_
        refine lv_iload_n cx.1 cx.2.1 dX5_take_40 rfl (lv_at hl 2 rfl) ?_
        obtain ⟨v4, e_v4, h⟩ := md_ob h
        refine cd_lJ (f := 161) hj cx hw (by decide) (show _ < 196 by omega) rfl e_v4 dX5_take_41 ?_
        obtain ⟨σ5, e_σ5, h⟩ := md_ob h
        refine cd_sJ (f := 161) hj cx hw (by decide) (show _ < 196 by omega) rfl e_σ5 dX5_take_42 (fun H locs hw => ?_)
        refine lv_iinc (v := (l2 + 1)) (lv' := [(2, .int (l2 + 1)), (0, .ref (ad 5 a0)), (1, .ref (ad 5 a1))]) cx.1 cx.2.1 dX5_take_43 hl (k := 2) rfl rfl (by decide) rfl (fun ls hl => ?_)
        refine lv_goto (tgt := 26) cx.1 cx.2.1 dX5_take_46 (by decide) ?_
        exact ih _ hj σ5 ((l2 + 1)) q _ _ _ h hw (lv_sub hl [1, 2, 0] rfl) K
  obtain ⟨q6, e_q6, h⟩ := md_ob h
  refine L26 n _ hj σ3 0 q6 _ _ _ e_q6 hw (lv_sub hl [1, 2, 0] rfl) (fun ca hj H locs ls hw hl => ?_)
  exact hp_vret cx hw ((cd_ret hj h).2) dX5_take_49
set_option maxHeartbeats 4000000 in
set_option maxRecDepth 100000 in
theorem kc_X3_aim (l : Launch) (D : va_G) (cA : Nat → ClassId) (E : hp_N) (sz : Nat) (ad : Nat → Nat → Nat) (ca0 : Nat → Nat) (hj : cd_inj ad ca0) (oq sgq sgv : Nat) (hE : cd_E E oq sgq sgv) (n : Nat) (σ0 : cd_S) (a1 : Int32) (a2 : Int32) (p : (Int32 × cd_S)) (h : f_X3_aim n σ0 a1 a2 = some p) : Met l yX3_aim (Cond.code yX3_aim cX3_aim 3 none :: v_CLS) ({ frames := 2, cells := 0, slots := 0, locals := 46 }) (hp_Pc D vwCl (hp_Tl cA) E sz (cd_pic cA ad ca0 σ0) [.ref (ad 3 0), .int a1, .int a2]) (hp_Qv D vwCl (hp_Tl cA) sz (cd_pic cA ad ca0 σ0) (fun u => ∃ ca1, cd_inj ad ca1 ∧ u = cd_pic cA ad ca1 p.2)) 0 0 (hp_A (cd_pic cA ad ca0 σ0) sz) := by
  refine hp_ofW (cc := cX3_aim) (maxL := 3) (ret := none) (by decide) rfl (Nat.le_of_ble_eq_true rfl) ?_
  intro pp ee ss mm bb mt cd ls cx hsz hw hl
  have hl : lv_has ls 3 [(0, .ref (ad 3 0)), (1, .int a1), (2, .int a2)] := hl
  refine lv_iload_n cx.1 cx.2.1 dX3_aim_0 rfl (lv_at hl 1 rfl) ?_
  refine lv_if_lt (tgt := 33) cx.1 cx.2.1 dX3_aim_1 (by decide) (fun c1 => ?_) (fun c1 => ?_)
  · have h := md_ip c1 h
    exact hp_vret cx hw ((cd_ret hj h).2) dX3_aim_33
  · have h := md_in c1 h
    refine lv_iload_n cx.1 cx.2.1 dX3_aim_4 rfl (lv_at hl 1 rfl) ?_
    refine lv_aload_n cx.1 cx.2.1 dX3_aim_5 rfl (lv_at hl 0 rfl) ?_
    refine cd_gI (o := 3) (k := 13) (f := 109) hj cx hw hic3 rfl ⟨by decide, rfl, by decide, rfl⟩ rfl (by decide) (List.mem_cons_of_mem _ cm_310) dX3_aim_6 ?_
    refine lv_icmp_ge (tgt := 33) cx.1 cx.2.1 dX3_aim_9 (by decide) (fun c9 => ?_) (fun c9 => ?_)
    · have h := md_ip c9 h
      exact hp_vret cx hw ((cd_ret hj h).2) dX3_aim_33
    · have h := md_in c9 h
      refine lv_aload_n cx.1 cx.2.1 dX3_aim_12 rfl (lv_at hl 0 rfl) ?_
      refine cd_gO (o2 := 5) (e2 := 192) (o := 3) (k := 9) (f := 105) hj cx hw hic3 rfl ⟨by decide, rfl, by decide, rfl⟩ rfl (by decide) ⟨rfl, rfl⟩ (List.mem_cons_of_mem _ cm_311) dX3_aim_13 ?_
      refine lv_aload_n cx.1 cx.2.1 dX3_aim_16 rfl (lv_at hl 0 rfl) ?_
      refine cd_gA (o := 3) (k := 6) (f := 102) hj cx hw hic3 rfl ⟨by decide, rfl, by decide, rfl⟩ rfl (by decide) (List.mem_cons_of_mem _ cm_312) dX3_aim_17 ?_
      refine lv_iload_n cx.1 cx.2.1 dX3_aim_20 rfl (lv_at hl 1 rfl) ?_
      obtain ⟨u1, e_u1, h⟩ := md_ob h
      have hb_u1 : u1 < 192 := (cd_ldRs e_u1).2.2
      refine cd_lR (f := 102) (o2 := 5) hj cx hw (by decide) (by decide) rfl (by decide) rfl rfl e_u1 dX3_aim_21 ?_
      obtain ⟨p2, e_p2, h⟩ := md_ob h
      refine hp_callVv (As := [.ref (ad 5 u1)]) (rest := []) cx hw (kc_X5_take l D cA E _ ad _ hj oq sgq sgv hE n σ0 192 u1 (by decide) (show _ < 196 by omega) p2 e_p2) (cwV 1 cx.2.2.2.2.2.1 (cd_giV cm_313 cm_314 cm_315 cm_306 cm_316) rfl rfl rfl hdc_X5_take ⟨Nat.le_of_ble_eq_true rfl, Nat.le_of_ble_eq_true rfl⟩) (cd_atO hj (by decide) (by decide)) rfl rfl hl.1 rfl (Nat.le_of_ble_eq_true rfl) dX3_aim_22 ⟨Nat.le_refl _, Nat.le_refl _⟩ (fun u H locs hp hw => ?_)
      obtain ⟨ca, hj, rfl⟩ := hp
      refine lv_aload_n cx.1 cx.2.1 dX3_aim_25 rfl (lv_at hl 0 rfl) ?_
      refine cd_gO (o2 := 5) (e2 := 192) (o := 3) (k := 9) (f := 105) hj cx hw hic3 rfl ⟨by decide, rfl, by decide, rfl⟩ rfl (by decide) ⟨rfl, rfl⟩ (List.mem_cons_of_mem _ cm_311) dX3_aim_26 ?_
      refine lv_iload_n cx.1 cx.2.1 dX3_aim_29 rfl (lv_at hl 2 rfl) ?_
      obtain ⟨p3, e_p3, h⟩ := md_ob h
      refine hp_callVv (As := [.int a2]) (rest := []) cx hw (kc_X5_addDigits l D cA E _ ad _ hj oq sgq sgv hE n p2.2 192 a2 (by decide) p3 e_p3) (cwV 1 cx.2.2.2.2.2.1 (cd_giV cm_317 cm_318 cm_319 cm_306 cm_320) rfl rfl rfl hdc_X5_addDigits ⟨Nat.le_of_ble_eq_true rfl, Nat.le_of_ble_eq_true rfl⟩) (cd_atO hj (by decide) (by decide)) rfl rfl hl.1 rfl (Nat.le_of_ble_eq_true rfl) dX3_aim_30 ⟨Nat.le_refl _, Nat.le_refl _⟩ (fun u H locs hp hw => ?_)
      obtain ⟨ca, hj, rfl⟩ := hp
      exact hp_vret cx hw ((cd_ret hj h).2) dX3_aim_33
set_option maxHeartbeats 4000000 in
set_option maxRecDepth 100000 in
theorem kc_X5_covers (l : Launch) (D : va_G) (cA : Nat → ClassId) (E : hp_N) (sz : Nat) (ad : Nat → Nat → Nat) (ca0 : Nat → Nat) (hj : cd_inj ad ca0) (oq sgq sgv : Nat) (hE : cd_E E oq sgq sgv) (n : Nat) (σ0 : cd_S) (a0 : Nat) (a1 : Nat) (hb_a0 : a0 < 196) (hb_a1 : a1 < 196) (p : (Int32 × cd_S)) (h : f_X5_covers n σ0 a0 a1 = some p) : Met l yX5_covers (Cond.code yX5_covers cX5_covers 5 (some .boolean) :: v_CLS) ({ frames := 0, cells := 0, slots := 0, locals := 0 }) (hp_Pc D vwCl (hp_Tl cA) E sz (cd_pic cA ad ca0 σ0) [.ref (ad 5 a0), .ref (ad 5 a1)]) (hp_Qi D vwCl (hp_Tl cA) sz (cd_pic cA ad ca0 σ0) (fun r u => r = p.1 ∧ ∃ ca1, cd_inj ad ca1 ∧ u = cd_pic cA ad ca1 p.2)) 0 0 (hp_A (cd_pic cA ad ca0 σ0) sz) := by
  refine hp_ofW (cc := cX5_covers) (maxL := 5) (ret := (some .boolean)) (by decide) rfl (Nat.le_of_ble_eq_true rfl) ?_
  intro pp ee ss mm bb mt cd ls cx hsz hw hl
  have hl : lv_has ls 5 [(0, .ref (ad 5 a0)), (1, .ref (ad 5 a1))] := hl
  have J60 : ∀ (ca : Nat → Nat) (hj : cd_inj ad ca) (σ : cd_S) (t0 : Int32) (H : Heap) (locs : List Loc) (ls : Array Slot), f_X5_covers_J60 n a0 a1 σ t0 = some p → hp_w D vwCl (hp_Tl cA) E (hp_A (cd_pic cA ad ca0 σ0) sz) ss H locs (cd_pic cA ad ca σ) → lv_has ls 5 [(0, .ref (ad 5 a0)), (1, .ref (ad 5 a1))] → W pp l ee ({ frames := 0, cells := 0, slots := 0, locals := 0 }) ss mm [.ref (ad 5 a0), .ref (ad 5 a1)].toArray bb mt cd H locs 0 0 (MQ bb (hp_Qi D vwCl (hp_Tl cA) sz (cd_pic cA ad ca0 σ0) (fun r u => r = p.1 ∧ ∃ ca1, cd_inj ad ca1 ∧ u = cd_pic cA ad ca1 p.2)) [.ref (ad 5 a0), .ref (ad 5 a1)].toArray ss 0 0 (hp_A (cd_pic cA ad ca0 σ0) sz)) (F0 mm 60 ls [.int t0]) := by
    intro ca hj σ t0 H locs ls h hw hl
    refine lv_istore_n (lv' := [(3, .int t0), (0, .ref (ad 5 a0)), (1, .ref (ad 5 a1))]) cx.1 cx.2.1 dX5_covers_60 rfl hl (by decide) rfl (fun ls hl => ?_)
    refine lv_iconst (v := 0) cx.1 cx.2.1 dX5_covers_61 (by decide) ?_
    refine lv_istore (lv' := [(4, .int 0), (3, .int t0), (0, .ref (ad 5 a0)), (1, .ref (ad 5 a1))]) cx.1 cx.2.1 dX5_covers_62 hl (by decide) rfl (fun ls hl => ?_)
    have L64 : ∀ (j : Nat) (ca : Nat → Nat) (hj : cd_inj ad ca) (σ : cd_S) (l3 : Int32) (l4 : Int32) (q : (cd_S × Int32 × Int32)) (H : Heap) (locs : List Loc) (ls : Array Slot), f_X5_covers_L64 n a0 a1 j σ l3 l4 = some q → hp_w D vwCl (hp_Tl cA) E (hp_A (cd_pic cA ad ca0 σ0) sz) ss H locs (cd_pic cA ad ca σ) → lv_has ls 5 [(0, .ref (ad 5 a0)), (1, .ref (ad 5 a1)), (3, .int l3), (4, .int l4)] → (∀ (ca : Nat → Nat) (hj : cd_inj ad ca) (H : Heap) (locs : List Loc) (ls : Array Slot), hp_w D vwCl (hp_Tl cA) E (hp_A (cd_pic cA ad ca0 σ0) sz) ss H locs (cd_pic cA ad ca q.1) → lv_has ls 5 [(3, .int q.2.1)] → W pp l ee ({ frames := 0, cells := 0, slots := 0, locals := 0 }) ss mm [.ref (ad 5 a0), .ref (ad 5 a1)].toArray bb mt cd H locs 0 0 (MQ bb (hp_Qi D vwCl (hp_Tl cA) sz (cd_pic cA ad ca0 σ0) (fun r u => r = p.1 ∧ ∃ ca1, cd_inj ad ca1 ∧ u = cd_pic cA ad ca1 p.2)) [.ref (ad 5 a0), .ref (ad 5 a1)].toArray ss 0 0 (hp_A (cd_pic cA ad ca0 σ0) sz)) (F0 mm 113 ls [])) → W pp l ee ({ frames := 0, cells := 0, slots := 0, locals := 0 }) ss mm [.ref (ad 5 a0), .ref (ad 5 a1)].toArray bb mt cd H locs 0 0 (MQ bb (hp_Qi D vwCl (hp_Tl cA) sz (cd_pic cA ad ca0 σ0) (fun r u => r = p.1 ∧ ∃ ca1, cd_inj ad ca1 ∧ u = cd_pic cA ad ca1 p.2)) [.ref (ad 5 a0), .ref (ad 5 a1)].toArray ss 0 0 (hp_A (cd_pic cA ad ca0 σ0) sz)) (F0 mm 64 ls []) := by
      intro j
      induction j with
      | zero => intro ca hj σ l3 l4 q H locs ls h; exact nomatch h
      | succ j ih =>
        intro ca hj σ l3 l4 q H locs ls h hw hl K
        unfold f_X5_covers_L64 at h
        have J106 : ∀ (ca : Nat → Nat) (hj : cd_inj ad ca) (σ : cd_S) (l4 : Int32) (t0 : Int32) (H : Heap) (locs : List Loc) (ls : Array Slot), f_X5_covers_J106 n a0 a1 (f_X5_covers_L64 n a0 a1 j) σ l4 t0 = some q → hp_w D vwCl (hp_Tl cA) E (hp_A (cd_pic cA ad ca0 σ0) sz) ss H locs (cd_pic cA ad ca σ) → lv_has ls 5 [(0, .ref (ad 5 a0)), (1, .ref (ad 5 a1)), (4, .int l4)] → W pp l ee ({ frames := 0, cells := 0, slots := 0, locals := 0 }) ss mm [.ref (ad 5 a0), .ref (ad 5 a1)].toArray bb mt cd H locs 0 0 (MQ bb (hp_Qi D vwCl (hp_Tl cA) sz (cd_pic cA ad ca0 σ0) (fun r u => r = p.1 ∧ ∃ ca1, cd_inj ad ca1 ∧ u = cd_pic cA ad ca1 p.2)) [.ref (ad 5 a0), .ref (ad 5 a1)].toArray ss 0 0 (hp_A (cd_pic cA ad ca0 σ0) sz)) (F0 mm 106 ls [.int t0]) := by
          intro ca hj σ l4 t0 H locs ls h hw hl
          refine lv_istore_n (lv' := [(3, .int t0), (0, .ref (ad 5 a0)), (1, .ref (ad 5 a1)), (4, .int l4)]) cx.1 cx.2.1 dX5_covers_106 rfl hl (by decide) rfl (fun ls hl => ?_)
          refine lv_iinc (v := (l4 + 1)) (lv' := [(4, .int (l4 + 1)), (3, .int t0), (0, .ref (ad 5 a0)), (1, .ref (ad 5 a1))]) cx.1 cx.2.1 dX5_covers_107 hl (k := 3) rfl rfl (by decide) rfl (fun ls hl => ?_)
          refine lv_goto (tgt := 64) cx.1 cx.2.1 dX5_covers_110 (by decide) ?_
          exact ih _ hj σ t0 ((l4 + 1)) q _ _ _ h hw (lv_sub hl [2, 3, 1, 0] rfl) K
        refine lv_iload_n cx.1 cx.2.1 dX5_covers_64 rfl (lv_at hl 2 rfl) ?_
        refine lv_if_eq (tgt := 113) cx.1 cx.2.1 dX5_covers_65 (by decide) (fun c65 => ?_) (fun c65 => ?_)
        · have h := md_ip c65 h
          obtain rfl := Option.some.inj h
          exact K _ hj _ _ _ hw (lv_sub hl [2] rfl)
        · have h := md_in c65 h
          refine lv_iload cx.1 cx.2.1 dX5_covers_68 (lv_at hl 3 rfl) ?_
          refine lv_aload_n cx.1 cx.2.1 dX5_covers_70 rfl (lv_at hl 0 rfl) ?_
          refine cd_gI (o := 5) (k := 2) (f := 162) hj cx hw hic5 rfl ⟨by decide, rfl, by decide, rfl⟩ rfl (show _ < 196 by omega) (List.mem_cons_of_mem _ cm_297) dX5_covers_71 ?_
          refine lv_icmp_ge (tgt := 113) cx.1 cx.2.1 dX5_covers_74 (by decide) (fun c74 => ?_) (fun c74 => ?_)
          · have h := md_ip c74 h
            obtain rfl := Option.some.inj h
            exact K _ hj _ _ _ hw (lv_sub hl [2] rfl)
          · have h := md_in c74 h
            refine lv_iload cx.1 cx.2.1 dX5_covers_77 (lv_at hl 3 rfl) ?_
            refine lv_iconst (v := 5) cx.1 cx.2.1 dX5_covers_79 (by decide) ?_
            refine lv_icmp_ge (tgt := 113) cx.1 cx.2.1 dX5_covers_80 (by decide) (fun c80 => ?_) (fun c80 => ?_)
            · have h := md_ip c80 h
              obtain rfl := Option.some.inj h
              exact K _ hj _ _ _ hw (lv_sub hl [2] rfl)
            · have h := md_in c80 h
              refine lv_aload_n cx.1 cx.2.1 dX5_covers_83 rfl (lv_at hl 0 rfl) ?_
              refine cd_gA (o := 5) (k := 1) (f := 161) hj cx hw hic5 rfl ⟨by decide, rfl, by decide, rfl⟩ rfl (show _ < 196 by omega) (List.mem_cons_of_mem _ cm_298) dX5_covers_84 ?_
              refine lv_iload cx.1 cx.2.1 dX5_covers_87 (lv_at hl 3 rfl) ?_
              obtain ⟨v1, e_v1, h⟩ := md_ob h
              refine cd_lJ (f := 161) hj cx hw (by decide) (show _ < 196 by omega) rfl e_v1 dX5_covers_89 ?_
              refine lv_aload_n cx.1 cx.2.1 dX5_covers_90 rfl (lv_at hl 1 rfl) ?_
              refine cd_gA (o := 5) (k := 1) (f := 161) hj cx hw hic5 rfl ⟨by decide, rfl, by decide, rfl⟩ rfl (show _ < 196 by omega) (List.mem_cons_of_mem _ cm_298) dX5_covers_91 ?_
              refine lv_iload cx.1 cx.2.1 dX5_covers_94 (lv_at hl 3 rfl) ?_
              obtain ⟨v2, e_v2, h⟩ := md_ob h
              refine cd_lJ (f := 161) hj cx hw (by decide) (show _ < 196 by omega) rfl e_v2 dX5_covers_96 ?_
              refine W.lcmp cx.1 cx.2.1 dX5_covers_97 ?_
              refine lv_if_ne (tgt := 105) cx.1 cx.2.1 dX5_covers_98 (by decide) (fun c98 => ?_) (fun c98 => ?_)
              · have h := md_in c98 h
                refine lv_iconst (v := 0) cx.1 cx.2.1 dX5_covers_105 (by decide) ?_
                exact J106 _ hj σ l4 0 _ _ _ h hw (lv_sub hl [0, 1, 3] rfl)
              · have h := md_ip c98 h
                refine lv_iconst (v := 1) cx.1 cx.2.1 dX5_covers_101 (by decide) ?_
                refine lv_goto (tgt := 106) cx.1 cx.2.1 dX5_covers_102 (by decide) ?_
                exact J106 _ hj σ l4 1 _ _ _ h hw (lv_sub hl [0, 1, 3] rfl)
    obtain ⟨q3, e_q3, h⟩ := md_ob h
    refine L64 n _ hj σ t0 0 q3 _ _ _ e_q3 hw (lv_sub hl [2, 3, 1, 0] rfl) (fun ca hj H locs ls hw hl => ?_)
    refine lv_iload_n cx.1 cx.2.1 dX5_covers_113 rfl (lv_at hl 0 rfl) ?_
    obtain ⟨z4, e_z4, h⟩ := md_ob h
    rw [(md_zbs e_z4).1] at h
    exact hp_zret cx hw (cd_ret hj h) (md_nbn (md_zbs e_z4).2) dX5_covers_114
  refine lv_aload_n cx.1 cx.2.1 dX5_covers_0 rfl (lv_at hl 1 rfl) ?_
  refine cd_gI (o := 5) (k := 2) (f := 162) hj cx hw hic5 rfl ⟨by decide, rfl, by decide, rfl⟩ rfl (show _ < 196 by omega) (List.mem_cons_of_mem _ cm_297) dX5_covers_1 ?_
  refine lv_aload_n cx.1 cx.2.1 dX5_covers_4 rfl (lv_at hl 0 rfl) ?_
  refine cd_gI (o := 5) (k := 2) (f := 162) hj cx hw hic5 rfl ⟨by decide, rfl, by decide, rfl⟩ rfl (show _ < 196 by omega) (List.mem_cons_of_mem _ cm_297) dX5_covers_5 ?_
  refine lv_isub cx.1 cx.2.1 dX5_covers_8 ?_
  refine lv_istore_n (lv' := [(2, .int ((cI σ0 162 a1) - (cI σ0 162 a0))), (0, .ref (ad 5 a0)), (1, .ref (ad 5 a1))]) cx.1 cx.2.1 dX5_covers_9 rfl hl (by decide) rfl (fun ls hl => ?_)
  refine lv_aload_n cx.1 cx.2.1 dX5_covers_10 rfl (lv_at hl 1 rfl) ?_
  refine cd_gI (o := 5) (k := 3) (f := 163) hj cx hw hic5 rfl ⟨by decide, rfl, by decide, rfl⟩ rfl (show _ < 196 by omega) (List.mem_cons_of_mem _ cm_309) dX5_covers_11 ?_
  refine lv_if_ne (tgt := 29) cx.1 cx.2.1 dX5_covers_14 (by decide) (fun c14 => ?_) (fun c14 => ?_)
  · have h := md_in c14 h
    refine lv_aload_n cx.1 cx.2.1 dX5_covers_29 rfl (lv_at hl 1 rfl) ?_
    refine cd_gI (o := 5) (k := 3) (f := 163) hj cx hw hic5 rfl ⟨by decide, rfl, by decide, rfl⟩ rfl (show _ < 196 by omega) (List.mem_cons_of_mem _ cm_309) dX5_covers_30 ?_
    refine lv_iconst (v := 1) cx.1 cx.2.1 dX5_covers_33 (by decide) ?_
    refine lv_icmp_ne (tgt := 50) cx.1 cx.2.1 dX5_covers_34 (by decide) (fun c34 => ?_) (fun c34 => ?_)
    · have h := md_in c34 h
      refine lv_iload_n cx.1 cx.2.1 dX5_covers_50 rfl (lv_at hl 0 rfl) ?_
      refine lv_iconst (v := 1) cx.1 cx.2.1 dX5_covers_51 (by decide) ?_
      refine lv_icmp_lt (tgt := 59) cx.1 cx.2.1 dX5_covers_52 (by decide) (fun c52 => ?_) (fun c52 => ?_)
      · have h := md_ip c52 h
        refine lv_iconst (v := 0) cx.1 cx.2.1 dX5_covers_59 (by decide) ?_
        exact J60 _ hj σ0 0 _ _ _ h hw (lv_sub hl [1, 2] rfl)
      · have h := md_in c52 h
        refine lv_iconst (v := 1) cx.1 cx.2.1 dX5_covers_55 (by decide) ?_
        refine lv_goto (tgt := 60) cx.1 cx.2.1 dX5_covers_56 (by decide) ?_
        exact J60 _ hj σ0 1 _ _ _ h hw (lv_sub hl [1, 2] rfl)
    · have h := md_ip c34 h
      refine lv_iload_n cx.1 cx.2.1 dX5_covers_37 rfl (lv_at hl 0 rfl) ?_
      refine lv_iconst (v := 1) cx.1 cx.2.1 dX5_covers_38 (by decide) ?_
      refine lv_icmp_ne (tgt := 46) cx.1 cx.2.1 dX5_covers_39 (by decide) (fun c39 => ?_) (fun c39 => ?_)
      · have h := md_in c39 h
        refine lv_iconst (v := 0) cx.1 cx.2.1 dX5_covers_46 (by decide) ?_
        refine lv_goto (tgt := 60) cx.1 cx.2.1 dX5_covers_47 (by decide) ?_
        exact J60 _ hj σ0 0 _ _ _ h hw (lv_sub hl [1, 2] rfl)
      · have h := md_ip c39 h
        refine lv_iconst (v := 1) cx.1 cx.2.1 dX5_covers_42 (by decide) ?_
        refine lv_goto (tgt := 60) cx.1 cx.2.1 dX5_covers_43 (by decide) ?_
        exact J60 _ hj σ0 1 _ _ _ h hw (lv_sub hl [1, 2] rfl)
  · have h := md_ip c14 h
    refine lv_iload_n cx.1 cx.2.1 dX5_covers_17 rfl (lv_at hl 0 rfl) ?_
    refine lv_if_ne (tgt := 25) cx.1 cx.2.1 dX5_covers_18 (by decide) (fun c18 => ?_) (fun c18 => ?_)
    · have h := md_in c18 h
      refine lv_iconst (v := 0) cx.1 cx.2.1 dX5_covers_25 (by decide) ?_
      refine lv_goto (tgt := 60) cx.1 cx.2.1 dX5_covers_26 (by decide) ?_
      exact J60 _ hj σ0 0 _ _ _ h hw (lv_sub hl [1, 2] rfl)
    · have h := md_ip c18 h
      refine lv_iconst (v := 1) cx.1 cx.2.1 dX5_covers_21 (by decide) ?_
      refine lv_goto (tgt := 60) cx.1 cx.2.1 dX5_covers_22 (by decide) ?_
      exact J60 _ hj σ0 1 _ _ _ h hw (lv_sub hl [1, 2] rfl)
