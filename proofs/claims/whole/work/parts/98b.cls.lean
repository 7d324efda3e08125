set_option maxHeartbeats 4000000 in
set_option maxRecDepth 100000 in
theorem kc_X1_fail (l : Launch) (D : va_G) (cA : Nat → ClassId) (E : hp_N) (sz : Nat) (ad : Nat → Nat → Nat) (ca0 : Nat → Nat) (hj : cd_inj ad ca0) (oq sgq sgv : Nat) (hE : cd_E E oq sgq sgv) (n : Nat) (σ0 : cd_S) (a0 : Nat) (a1 : Int32) (hb_a0 : a0 < 8) (p : (Int32 × cd_S)) (h : f_X1_fail n σ0 a0 a1 = some p) : Met l yX1_fail (Cond.code yX1_fail cX1_fail 2 (some .int) :: v_CLS) ({ frames := 0, cells := 0, slots := 0, locals := 0 }) (hp_Pc D vwCl (hp_Tl cA) E sz (cd_pic cA ad ca0 σ0) [.ref (ad 7 a0), .int a1]) (hp_Qi D vwCl (hp_Tl cA) sz (cd_pic cA ad ca0 σ0) (fun r u => r = p.1 ∧ ∃ ca1, cd_inj ad ca1 ∧ u = cd_pic cA ad ca1 p.2)) 0 0 (hp_A (cd_pic cA ad ca0 σ0) sz) := by
  refine hp_ofW (cc := cX1_fail) (maxL := 2) (ret := (some .int)) (by decide) rfl (Nat.le_of_ble_eq_true rfl) ?_
  intro pp ee ss mm bb mt cd ls cx hsz hw hl
  have hl : lv_has ls 2 [(0, .ref (ad 7 a0)), (1, .int a1)] := hl
  refine lv_aload_n cx.1 cx.2.1 dX1_fail_0 rfl (lv_at hl 0 rfl) ?_
  refine lv_iload_n cx.1 cx.2.1 dX1_fail_1 rfl (lv_at hl 1 rfl) ?_
  obtain ⟨σ1, e_σ1, h⟩ := md_ob h
  refine cd_pI (o := 7) (k := 13) (f := 237) hj cx hw hic7 rfl ⟨by decide, rfl, by decide, rfl⟩ tyX7_ok nmX7 rfl (show _ < 8 by omega) rfl (List.mem_cons_of_mem _ cm_75) rfl e_σ1 dX1_fail_2 (fun H locs hw => ?_)
  refine lv_iconst (v := 2) cx.1 cx.2.1 dX1_fail_5 (by decide) ?_
  exact hp_iret cx hw (cd_ret hj h) dX1_fail_6
set_option maxHeartbeats 4000000 in
set_option maxRecDepth 100000 in
theorem kc_X1_makeContext (l : Launch) (D : va_G) (cA : Nat → ClassId) (E : hp_N) (sz : Nat) (ad : Nat → Nat → Nat) (ca0 : Nat → Nat) (hj : cd_inj ad ca0) (oq sgq sgv : Nat) (hE : cd_E E oq sgq sgv) (n : Nat) (σ0 : cd_S) (b0 : cd_B) (a1 : Nat) (a2 : Int32) (hb_a1 : a1 < 60) (p : (Int32 × cd_S × cd_B)) (h : f_X1_makeContext n σ0 b0 a1 a2 = some p) : (p.2.2.1 ≤ b0.1 ∧ p.2.2.2 ≤ b0.2) ∧ Met l yX1_makeContext (Cond.code yX1_makeContext cX1_makeContext 3 (some .int) :: v_CLS) ({ frames := 6, cells := b0.1 - p.2.2.1, slots := b0.2 - p.2.2.2, locals := 158 }) (hp_Pc D vwCl (hp_Tl cA) E sz (cd_pic cA ad ca0 σ0) [.ref (ad 1 0), .ref (ad 9 a1), .int a2]) (hp_Qi D vwCl (hp_Tl cA) sz (cd_pic cA ad ca0 σ0) (fun r u => r = p.1 ∧ ∃ ca1, cd_inj ad ca1 ∧ u = cd_pic cA ad ca1 p.2.1)) (b0.1 - p.2.2.1) (b0.2 - p.2.2.2) (hp_A (cd_pic cA ad ca0 σ0) sz) := by
  obtain ⟨hm0, hn0, h⟩ := cd_cks h
  have hM0 : p.2.2.1 ≤ b0.1 ∧ p.2.2.2 ≤ b0.2 := ⟨hm0, hn0⟩
  refine ⟨hM0, ?_⟩
  refine hp_ofW (cc := cX1_makeContext) (maxL := 3) (ret := (some .int)) (by decide) rfl (Nat.le_of_ble_eq_true rfl) ?_
  intro pp ee ss mm bb mt cd ls cx hsz hw hl
  have hl : lv_has ls 3 [(0, .ref (ad 1 0)), (1, .ref (ad 9 a1)), (2, .int a2)] := hl
  refine W.widen (k := b0.1 - b0.1) (n := b0.2 - b0.2) (Nat.zero_le _) (Nat.zero_le _) ?_
  have J62 : ∀ (ca : Nat → Nat) (hj : cd_inj ad ca) (σ : cd_S) (b : cd_B) (H : Heap) (locs : List Loc) (ls : Array Slot), b.1 ≤ b0.1 → b.2 ≤ b0.2 → p.2.2.1 ≤ b.1 → p.2.2.2 ≤ b.2 → f_X1_makeContext_J62 n a1 σ b = some p → hp_w D vwCl (hp_Tl cA) E (hp_A (cd_pic cA ad ca0 σ0) sz) ss H locs (cd_pic cA ad ca σ) → lv_has ls 3 [(0, .ref (ad 1 0)), (1, .ref (ad 9 a1))] → W pp l ee ({ frames := 6, cells := b0.1 - p.2.2.1, slots := b0.2 - p.2.2.2, locals := 158 }) ss mm [.ref (ad 1 0), .ref (ad 9 a1), .int a2].toArray bb mt cd H locs (b0.1 - b.1) (b0.2 - b.2) (MQ bb (hp_Qi D vwCl (hp_Tl cA) sz (cd_pic cA ad ca0 σ0) (fun r u => r = p.1 ∧ ∃ ca1, cd_inj ad ca1 ∧ u = cd_pic cA ad ca1 p.2.1)) [.ref (ad 1 0), .ref (ad 9 a1), .int a2].toArray ss (b0.1 - p.2.2.1) (b0.2 - p.2.2.2) (hp_A (cd_pic cA ad ca0 σ0) sz)) (F0 mm 62 ls []) := by
    intro ca hj σ b H locs ls hb1 hb2 hf1 hf2 h hw hl
    refine lv_aload_n cx.1 cx.2.1 dX1_makeContext_62 rfl (lv_at hl 0 rfl) ?_
    refine cd_gO (o2 := 0) (e2 := 0) (o := 1) (k := 2) (f := 34) hj cx hw hic1 rfl ⟨by decide, rfl, by decide, rfl⟩ rfl (by decide) ⟨rfl, rfl⟩ (List.mem_cons_of_mem _ cm_76) dX1_makeContext_63 ?_
    refine lv_aload_n cx.1 cx.2.1 dX1_makeContext_66 rfl (lv_at hl 1 rfl) ?_
    refine cd_gI (o := 9) (k := 3) (f := 291) hj cx hw hic9 rfl ⟨by decide, rfl, by decide, rfl⟩ rfl (show _ < 60 by omega) (List.mem_cons_of_mem _ cm_84) dX1_makeContext_67 ?_
    obtain ⟨p1, e_p1, h⟩ := md_ob h
    obtain ⟨hm2, hn2, h⟩ := cd_cks h
    have hM2 : p.2.2.1 ≤ p1.2.2.1 ∧ p.2.2.2 ≤ p1.2.2.2 := ⟨hm2, hn2⟩
    have hle1 := (kc_X0_settle l D cA E sz ad _ hj oq sgq sgv hE n σ b ((cI σ 291 a1)) p1 e_p1).1
    refine hp_callVi (As := [.int (cI σ 291 a1)]) (rest := []) cx hw ((kc_X0_settle l D cA E _ ad _ hj oq sgq sgv hE n σ b ((cI σ 291 a1)) p1 e_p1).2) (cwV 1 cx.2.2.2.2.2.1 (cd_giV cm_85 cm_86 cm_87 cm_23 cm_88) rfl rfl rfl hdc_X0_settle ⟨Nat.le_of_ble_eq_true rfl, Nat.le_of_ble_eq_true rfl⟩) (cd_atO hj (by decide) (by decide)) rfl rfl hl.1 rfl (Nat.le_of_ble_eq_true rfl) dX1_makeContext_70 ⟨by (try dsimp only); omega, by (try dsimp only); omega⟩ (fun r u H locs hp hw => ?_)
    obtain ⟨rfl, ca, hj, rfl⟩ := hp
    refine W.widen (k := b0.1 - p1.2.2.1) (n := b0.2 - p1.2.2.2) (by omega) (by omega) ?_
    exact hp_iret cx hw (cd_retb hj h) dX1_makeContext_73 (cd_le1 h) (cd_le2 h)
  have J35 : ∀ (ca : Nat → Nat) (hj : cd_inj ad ca) (σ : cd_S) (b : cd_B) (t0 : Int32) (H : Heap) (locs : List Loc) (ls : Array Slot), b.1 ≤ b0.1 → b.2 ≤ b0.2 → p.2.2.1 ≤ b.1 → p.2.2.2 ≤ b.2 → f_X1_makeContext_J35 n a1 σ b t0 = some p → hp_w D vwCl (hp_Tl cA) E (hp_A (cd_pic cA ad ca0 σ0) sz) ss H locs (cd_pic cA ad ca σ) → lv_has ls 3 [(0, .ref (ad 1 0)), (1, .ref (ad 9 a1))] → W pp l ee ({ frames := 6, cells := b0.1 - p.2.2.1, slots := b0.2 - p.2.2.2, locals := 158 }) ss mm [.ref (ad 1 0), .ref (ad 9 a1), .int a2].toArray bb mt cd H locs (b0.1 - b.1) (b0.2 - b.2) (MQ bb (hp_Qi D vwCl (hp_Tl cA) sz (cd_pic cA ad ca0 σ0) (fun r u => r = p.1 ∧ ∃ ca1, cd_inj ad ca1 ∧ u = cd_pic cA ad ca1 p.2.1)) [.ref (ad 1 0), .ref (ad 9 a1), .int a2].toArray ss (b0.1 - p.2.2.1) (b0.2 - p.2.2.2) (hp_A (cd_pic cA ad ca0 σ0) sz)) (F0 mm 35 ls [.int t0, .ref (ad 0 0)]) := by
    intro ca hj σ b t0 H locs ls hb1 hb2 hf1 hf2 h hw hl
    obtain ⟨p3, e_p3, h⟩ := md_ob h
    refine hp_callVv (As := [.int t0]) (rest := []) cx hw (kc_X0_load l D cA E _ ad _ hj oq sgq sgv hE n σ t0 p3 e_p3) (cwV 1 cx.2.2.2.2.2.1 (cd_giV cm_78 cm_79 cm_80 cm_23 cm_81) rfl rfl rfl hdc_X0_load ⟨Nat.le_of_ble_eq_true rfl, Nat.le_of_ble_eq_true rfl⟩) (cd_atO hj (by decide) (by decide)) rfl rfl hl.1 rfl (Nat.le_of_ble_eq_true rfl) dX1_makeContext_35 ⟨by (try dsimp only); omega, by (try dsimp only); omega⟩ (fun u H locs hp hw => ?_)
    obtain ⟨ca, hj, rfl⟩ := hp
    refine lv_aload_n cx.1 cx.2.1 dX1_makeContext_38 rfl (lv_at hl 1 rfl) ?_
    refine cd_gI (o := 9) (k := 1) (f := 289) hj cx hw hic9 rfl ⟨by decide, rfl, by decide, rfl⟩ rfl (show _ < 60 by omega) (List.mem_cons_of_mem _ cm_77) dX1_makeContext_39 ?_
    refine lv_iconst (v := 3) cx.1 cx.2.1 dX1_makeContext_42 (by decide) ?_
    refine lv_icmp_ne (tgt := 62) cx.1 cx.2.1 dX1_makeContext_43 (by decide) (fun c43 => ?_) (fun c43 => ?_)
    · have h := md_in c43 h
      exact J62 _ hj p3.2 b _ _ _ (by omega) (by omega) (by omega) (by omega) h hw (lv_sub hl [0, 1] rfl)
    · have h := md_ip c43 h
      refine lv_aload_n cx.1 cx.2.1 dX1_makeContext_46 rfl (lv_at hl 0 rfl) ?_
      refine cd_gO (o2 := 0) (e2 := 0) (o := 1) (k := 2) (f := 34) hj cx hw hic1 rfl ⟨by decide, rfl, by decide, rfl⟩ rfl (by decide) ⟨rfl, rfl⟩ (List.mem_cons_of_mem _ cm_76) dX1_makeContext_47 ?_
      refine lv_iconst (v := 1) cx.1 cx.2.1 dX1_makeContext_50 (by decide) ?_
      refine lv_bipush (v := 8) cx.1 cx.2.1 dX1_makeContext_51 (by decide) ?_
      refine lv_aload_n cx.1 cx.2.1 dX1_makeContext_53 rfl (lv_at hl 1 rfl) ?_
      refine cd_gI (o := 9) (k := 8) (f := 296) hj cx hw hic9 rfl ⟨by decide, rfl, by decide, rfl⟩ rfl (show _ < 60 by omega) (List.mem_cons_of_mem _ cm_82) dX1_makeContext_54 ?_
      refine lv_iadd cx.1 cx.2.1 dX1_makeContext_57 ?_
      refine lv_ishl cx.1 cx.2.1 dX1_makeContext_58 ?_
      obtain ⟨p4, e_p4, h⟩ := md_ob h
      refine hp_callVv (As := [.int ((1 : Int32) <<< (((8 : Int32) + (cI p3.2 296 a1)) &&& 31))]) (rest := []) cx hw (kc_X0_addDraft l D cA E _ ad _ hj oq sgq sgv hE n p3.2 (((1 : Int32) <<< (((8 : Int32) + (cI p3.2 296 a1)) &&& 31))) p4 e_p4) (cwV 1 cx.2.2.2.2.2.1 (cd_giV cm_83 cm_32 cm_33 cm_23 cm_34) rfl rfl rfl hdc_X0_addDraft ⟨Nat.le_of_ble_eq_true rfl, Nat.le_of_ble_eq_true rfl⟩) (cd_atO hj (by decide) (by decide)) rfl rfl hl.1 rfl (Nat.le_of_ble_eq_true rfl) dX1_makeContext_59 ⟨by (try dsimp only); omega, by (try dsimp only); omega⟩ (fun u H locs hp hw => ?_)
      obtain ⟨ca, hj, rfl⟩ := hp
      exact J62 _ hj p4.2 b _ _ _ (by omega) (by omega) (by omega) (by omega) h hw (lv_sub hl [0, 1] rfl)
  refine lv_aload_n cx.1 cx.2.1 dX1_makeContext_0 rfl (lv_at hl 0 rfl) ?_
  refine cd_gO (o2 := 0) (e2 := 0) (o := 1) (k := 2) (f := 34) hj cx hw hic1 rfl ⟨by decide, rfl, by decide, rfl⟩ rfl (by decide) ⟨rfl, rfl⟩ (List.mem_cons_of_mem _ cm_76) dX1_makeContext_1 ?_
  refine lv_aload_n cx.1 cx.2.1 dX1_makeContext_4 rfl (lv_at hl 1 rfl) ?_
  refine cd_gI (o := 9) (k := 1) (f := 289) hj cx hw hic9 rfl ⟨by decide, rfl, by decide, rfl⟩ rfl (show _ < 60 by omega) (List.mem_cons_of_mem _ cm_77) dX1_makeContext_5 ?_
  refine lv_iconst (v := 2) cx.1 cx.2.1 dX1_makeContext_8 (by decide) ?_
  refine lv_icmp_ne (tgt := 16) cx.1 cx.2.1 dX1_makeContext_9 (by decide) (fun c9 => ?_) (fun c9 => ?_)
  · have h := md_in c9 h
    refine lv_aload_n cx.1 cx.2.1 dX1_makeContext_16 rfl (lv_at hl 1 rfl) ?_
    refine cd_gI (o := 9) (k := 1) (f := 289) hj cx hw hic9 rfl ⟨by decide, rfl, by decide, rfl⟩ rfl (show _ < 60 by omega) (List.mem_cons_of_mem _ cm_77) dX1_makeContext_17 ?_
    refine lv_iconst (v := 4) cx.1 cx.2.1 dX1_makeContext_20 (by decide) ?_
    refine lv_icmp_ne (tgt := 34) cx.1 cx.2.1 dX1_makeContext_21 (by decide) (fun c21 => ?_) (fun c21 => ?_)
    · have h := md_in c21 h
      refine lv_iload_n cx.1 cx.2.1 dX1_makeContext_34 rfl (lv_at hl 2 rfl) ?_
      exact J35 _ hj σ0 b0 a2 _ _ _ (by omega) (by omega) (by omega) (by omega) h hw (lv_sub hl [0, 1] rfl)
    · have h := md_ip c21 h
      refine lv_aload_n cx.1 cx.2.1 dX1_makeContext_24 rfl (lv_at hl 0 rfl) ?_
      obtain ⟨u5, e_u5, h⟩ := md_ob h
      have hb_u5 : u5 < 8 := (cd_dps e_u5).2
      refine cd_gP (o2 := 7) (u := u5) (o := 1) (k := 18) (f := 50) hj cx hw hic1 rfl ⟨by decide, rfl, by decide, rfl⟩ rfl (by decide) rfl e_u5 (List.mem_cons_of_mem _ cm_72) dX1_makeContext_25 ?_
      refine cd_gI (o := 7) (k := 17) (f := 241) hj cx hw hic7 rfl ⟨by decide, rfl, by decide, rfl⟩ rfl (show _ < 8 by omega) (List.mem_cons_of_mem _ cm_73) dX1_makeContext_28 ?_
      refine lv_goto (tgt := 35) cx.1 cx.2.1 dX1_makeContext_31 (by decide) ?_
      exact J35 _ hj σ0 b0 ((cI σ0 241 u5)) _ _ _ (by omega) (by omega) (by omega) (by omega) h hw (lv_sub hl [0, 1] rfl)
  · have h := md_ip c9 h
    refine lv_iconst (v := (-1)) cx.1 cx.2.1 dX1_makeContext_12 (by decide) ?_
    refine lv_goto (tgt := 35) cx.1 cx.2.1 dX1_makeContext_13 (by decide) ?_
    exact J35 _ hj σ0 b0 ((-1)) _ _ _ (by omega) (by omega) (by omega) (by omega) h hw (lv_sub hl [0, 1] rfl)
set_option maxHeartbeats 4000000 in
set_option maxRecDepth 100000 in
theorem kc_X1_push (l : Launch) (D : va_G) (cA : Nat → ClassId) (E : hp_N) (sz : Nat) (ad : Nat → Nat → Nat) (ca0 : Nat → Nat) (hj : cd_inj ad ca0) (oq sgq sgv : Nat) (hE : cd_E E oq sgq sgv) (n : Nat) (σ0 : cd_S) (b0 : cd_B) (a0 : Nat) (a1 : Int64) (hb_a0 : a0 < 8) (p : (Int32 × cd_S × cd_B)) (h : f_X1_push n σ0 b0 a0 a1 = some p) : (p.2.2.1 ≤ b0.1 ∧ p.2.2.2 ≤ b0.2) ∧ Met l yX1_push (Cond.code yX1_push cX1_push 3 (some .int) :: v_CLS) ({ frames := 4, cells := b0.1 - p.2.2.1, slots := b0.2 - p.2.2.2, locals := 111 }) (hp_Pc D vwCl (hp_Tl cA) E sz (cd_pic cA ad ca0 σ0) [.ref (ad 7 a0), .long a1]) (hp_Qi D vwCl (hp_Tl cA) sz (cd_pic cA ad ca0 σ0) (fun r u => r = p.1 ∧ ∃ ca1, cd_inj ad ca1 ∧ u = cd_pic cA ad ca1 p.2.1)) (b0.1 - p.2.2.1) (b0.2 - p.2.2.2) (hp_A (cd_pic cA ad ca0 σ0) sz) := by
  obtain ⟨hm0, hn0, h⟩ := cd_cks h
  have hM0 : p.2.2.1 ≤ b0.1 ∧ p.2.2.2 ≤ b0.2 := ⟨hm0, hn0⟩
  refine ⟨hM0, ?_⟩
  refine hp_ofW (cc := cX1_push) (maxL := 3) (ret := (some .int)) (by decide) rfl (Nat.le_of_ble_eq_true rfl) ?_
  intro pp ee ss mm bb mt cd ls cx hsz hw hl
  have hl : lv_has ls 3 [(0, .ref (ad 7 a0)), (1, .long a1)] := hl
  refine W.widen (k := b0.1 - b0.1) (n := b0.2 - b0.2) (Nat.zero_le _) (Nat.zero_le _) ?_
  refine lv_aload_n cx.1 cx.2.1 dX1_push_0 rfl (lv_at hl 0 rfl) ?_
  refine cd_gO (o2 := 6) (e2 := (9 + 1 * a0)) (o := 7) (k := 6) (f := 230) hj cx hw hic7 rfl ⟨by decide, rfl, by decide, rfl⟩ rfl (show _ < 8 by omega) ⟨rfl, rfl⟩ (List.mem_cons_of_mem _ cm_89) dX1_push_1 ?_
  refine lv_lload_n cx.1 cx.2.1 dX1_push_4 rfl (lv_at hl 1 rfl) ?_
  obtain ⟨p1, e_p1, h⟩ := md_ob h
  obtain ⟨hm2, hn2, h⟩ := cd_cks h
  have hM2 : p.2.2.1 ≤ p1.2.2.1 ∧ p.2.2.2 ≤ p1.2.2.2 := ⟨hm2, hn2⟩
  have hle1 := (kc_X6_add l D cA E sz ad _ hj oq sgq sgv hE n σ0 b0 ((9 + 1 * a0)) a1 (show _ < 197 by omega) p1 e_p1).1
  refine hp_callVv (As := [.long a1]) (rest := []) cx hw ((kc_X6_add l D cA E _ ad _ hj oq sgq sgv hE n σ0 b0 ((9 + 1 * a0)) a1 (show _ < 197 by omega) p1 e_p1).2) (cwV 1 cx.2.2.2.2.2.1 (cd_giV cm_71 cm_40 cm_41 cm_5 cm_42) rfl rfl rfl hdc_X6_add ⟨Nat.le_of_ble_eq_true rfl, Nat.le_of_ble_eq_true rfl⟩) (cd_atO hj (by decide) (show _ < 197 by omega)) rfl rfl hl.1 rfl (Nat.le_of_ble_eq_true rfl) dX1_push_5 ⟨by (try dsimp only); omega, by (try dsimp only); omega⟩ (fun u H locs hp hw => ?_)
  obtain ⟨ca, hj, rfl⟩ := hp
  refine W.widen (k := b0.1 - p1.2.2.1) (n := b0.2 - p1.2.2.2) (by omega) (by omega) ?_
  refine lv_iconst (v := 0) cx.1 cx.2.1 dX1_push_8 (by decide) ?_
  exact hp_iret cx hw (cd_retb hj h) dX1_push_9 (cd_le1 h) (cd_le2 h)
set_option maxHeartbeats 4000000 in
set_option maxRecDepth 100000 in
theorem kc_X7_framed (l : Launch) (D : va_G) (cA : Nat → ClassId) (E : hp_N) (sz : Nat) (ad : Nat → Nat → Nat) (ca0 : Nat → Nat) (hj : cd_inj ad ca0) (oq sgq sgv : Nat) (hE : cd_E E oq sgq sgv) (n : Nat) (σ0 : cd_S) (a0 : Nat) (hb_a0 : a0 < 8) (p : (Int32 × cd_S)) (h : f_X7_framed n σ0 a0 = some p) : Met l yX7_framed (Cond.code yX7_framed cX7_framed 1 (some .boolean) :: v_CLS) ({ frames := 0, cells := 0, slots := 0, locals := 0 }) (hp_Pc D vwCl (hp_Tl cA) E sz (cd_pic cA ad ca0 σ0) [.ref (ad 7 a0)]) (hp_Qi D vwCl (hp_Tl cA) sz (cd_pic cA ad ca0 σ0) (fun r u => r = p.1 ∧ ∃ ca1, cd_inj ad ca1 ∧ u = cd_pic cA ad ca1 p.2)) 0 0 (hp_A (cd_pic cA ad ca0 σ0) sz) := by
  refine hp_ofW (cc := cX7_framed) (maxL := 1) (ret := (some .boolean)) (by decide) rfl (Nat.le_of_ble_eq_true rfl) ?_
  intro pp ee ss mm bb mt cd ls cx hsz hw hl
  have hl : lv_has ls 1 [(0, .ref (ad 7 a0))] := hl
  refine lv_aload_n cx.1 cx.2.1 dX7_framed_0 rfl (lv_at hl 0 rfl) ?_
  refine cd_gI (o := 7) (k := 8) (f := 232) hj cx hw hic7 rfl ⟨by decide, rfl, by decide, rfl⟩ rfl (show _ < 8 by omega) (List.mem_cons_of_mem _ cm_90) dX7_framed_1 ?_
  refine lv_if_le (tgt := 20) cx.1 cx.2.1 dX7_framed_4 (by decide) (fun c4 => ?_) (fun c4 => ?_)
  · have h := md_ip c4 h
    refine lv_iconst (v := 0) cx.1 cx.2.1 dX7_framed_20 (by decide) ?_
    exact hp_zret cx hw (cd_ret hj h) (by decide) dX7_framed_21
  · have h := md_in c4 h
    refine lv_aload_n cx.1 cx.2.1 dX7_framed_7 rfl (lv_at hl 0 rfl) ?_
    refine cd_gI (o := 7) (k := 8) (f := 232) hj cx hw hic7 rfl ⟨by decide, rfl, by decide, rfl⟩ rfl (show _ < 8 by omega) (List.mem_cons_of_mem _ cm_90) dX7_framed_8 ?_
    refine lv_bipush (v := 60) cx.1 cx.2.1 dX7_framed_11 (by decide) ?_
    refine lv_icmp_gt (tgt := 20) cx.1 cx.2.1 dX7_framed_13 (by decide) (fun c13 => ?_) (fun c13 => ?_)
    · have h := md_ip c13 h
      refine lv_iconst (v := 0) cx.1 cx.2.1 dX7_framed_20 (by decide) ?_
      exact hp_zret cx hw (cd_ret hj h) (by decide) dX7_framed_21
    · have h := md_in c13 h
      refine lv_iconst (v := 1) cx.1 cx.2.1 dX7_framed_16 (by decide) ?_
      refine lv_goto (tgt := 21) cx.1 cx.2.1 dX7_framed_17 (by decide) ?_
      exact hp_zret cx hw (cd_ret hj h) (by decide) dX7_framed_21
set_option maxHeartbeats 4000000 in
set_option maxRecDepth 100000 in
theorem kc_X7_contextNow (l : Launch) (D : va_G) (cA : Nat → ClassId) (E : hp_N) (sz : Nat) (ad : Nat → Nat → Nat) (ca0 : Nat → Nat) (hj : cd_inj ad ca0) (oq sgq sgv : Nat) (hE : cd_E E oq sgq sgv) (n : Nat) (σ0 : cd_S) (a0 : Nat) (hb_a0 : a0 < 8) (p : (Int32 × cd_S)) (h : f_X7_contextNow n σ0 a0 = some p) : Met l yX7_contextNow (Cond.code yX7_contextNow cX7_contextNow 1 (some .int) :: v_CLS) ({ frames := 1, cells := 0, slots := 0, locals := 20 }) (hp_Pc D vwCl (hp_Tl cA) E sz (cd_pic cA ad ca0 σ0) [.ref (ad 7 a0)]) (hp_Qi D vwCl (hp_Tl cA) sz (cd_pic cA ad ca0 σ0) (fun r u => r = p.1 ∧ ∃ ca1, cd_inj ad ca1 ∧ u = cd_pic cA ad ca1 p.2)) 0 0 (hp_A (cd_pic cA ad ca0 σ0) sz) := by
  refine hp_ofW (cc := cX7_contextNow) (maxL := 1) (ret := (some .int)) (by decide) rfl (Nat.le_of_ble_eq_true rfl) ?_
  intro pp ee ss mm bb mt cd ls cx hsz hw hl
  have hl : lv_has ls 1 [(0, .ref (ad 7 a0))] := hl
  refine lv_aload_n cx.1 cx.2.1 dX7_contextNow_0 rfl (lv_at hl 0 rfl) ?_
  obtain ⟨p1, e_p1, h⟩ := md_ob h
  refine hp_callVi (As := []) (rest := []) cx hw (kc_X7_framed l D cA E _ ad _ hj oq sgq sgv hE n σ0 a0 (show _ < 8 by omega) p1 e_p1) (cwV 0 cx.2.2.2.2.2.1 (cd_giV cm_91 cm_92 cm_93 cm_94 cm_95) rfl rfl rfl hdc_X7_framed ⟨Nat.le_of_ble_eq_true rfl, Nat.le_of_ble_eq_true rfl⟩) (cd_atO hj (by decide) (show _ < 8 by omega)) rfl rfl hl.1 rfl (Nat.le_of_ble_eq_true rfl) dX7_contextNow_1 ⟨Nat.le_refl _, Nat.le_refl _⟩ (fun r u H locs hp hw => ?_)
  obtain ⟨rfl, ca, hj, rfl⟩ := hp
  refine lv_if_eq (tgt := 21) cx.1 cx.2.1 dX7_contextNow_4 (by decide) (fun c4 => ?_) (fun c4 => ?_)
  · have h := md_ip c4 h
    refine lv_iconst (v := (-1)) cx.1 cx.2.1 dX7_contextNow_21 (by decide) ?_
    exact hp_iret cx hw (cd_ret hj h) dX7_contextNow_22
  · have h := md_in c4 h
    refine lv_aload_n cx.1 cx.2.1 dX7_contextNow_7 rfl (lv_at hl 0 rfl) ?_
    refine cd_gA (o := 7) (k := 5) (f := 229) hj cx hw hic7 rfl ⟨by decide, rfl, by decide, rfl⟩ rfl (show _ < 8 by omega) (List.mem_cons_of_mem _ cm_96) dX7_contextNow_8 ?_
    refine lv_aload_n cx.1 cx.2.1 dX7_contextNow_11 rfl (lv_at hl 0 rfl) ?_
    refine cd_gI (o := 7) (k := 8) (f := 232) hj cx hw hic7 rfl ⟨by decide, rfl, by decide, rfl⟩ rfl (show _ < 8 by omega) (List.mem_cons_of_mem _ cm_90) dX7_contextNow_12 ?_
    refine lv_iconst (v := 1) cx.1 cx.2.1 dX7_contextNow_15 (by decide) ?_
    refine lv_isub cx.1 cx.2.1 dX7_contextNow_16 ?_
    obtain ⟨v2, e_v2, h⟩ := md_ob h
    refine cd_lI (f := 229) hj cx hw (by decide) (show _ < 8 by omega) rfl e_v2 dX7_contextNow_17 ?_
    refine lv_goto (tgt := 22) cx.1 cx.2.1 dX7_contextNow_18 (by decide) ?_
    exact hp_iret cx hw (cd_ret hj h) dX7_contextNow_22
set_option maxHeartbeats 4000000 in
set_option maxRecDepth 100000 in
theorem kc_X9_locals (l : Launch) (D : va_G) (cA : Nat → ClassId) (E : hp_N) (sz : Nat) (ad : Nat → Nat → Nat) (ca0 : Nat → Nat) (hj : cd_inj ad ca0) (oq sgq sgv : Nat) (hE : cd_E E oq sgq sgv) (n : Nat) (σ0 : cd_S) (a0 : Nat) (hb_a0 : a0 < 60) (p : (Int32 × cd_S)) (h : f_X9_locals n σ0 a0 = some p) : Met l yX9_locals (Cond.code yX9_locals cX9_locals 1 (some .int) :: v_CLS) ({ frames := 0, cells := 0, slots := 0, locals := 0 }) (hp_Pc D vwCl (hp_Tl cA) E sz (cd_pic cA ad ca0 σ0) [.ref (ad 9 a0)]) (hp_Qi D vwCl (hp_Tl cA) sz (cd_pic cA ad ca0 σ0) (fun r u => r = p.1 ∧ ∃ ca1, cd_inj ad ca1 ∧ u = cd_pic cA ad ca1 p.2)) 0 0 (hp_A (cd_pic cA ad ca0 σ0) sz) := by
  refine hp_ofW (cc := cX9_locals) (maxL := 1) (ret := (some .int)) (by decide) rfl (Nat.le_of_ble_eq_true rfl) ?_
  intro pp ee ss mm bb mt cd ls cx hsz hw hl
  have hl : lv_has ls 1 [(0, .ref (ad 9 a0))] := hl
  refine lv_aload_n cx.1 cx.2.1 dX9_locals_0 rfl (lv_at hl 0 rfl) ?_
  refine cd_gI (o := 9) (k := 11) (f := 299) hj cx hw hic9 rfl ⟨by decide, rfl, by decide, rfl⟩ rfl (show _ < 60 by omega) (List.mem_cons_of_mem _ cm_97) dX9_locals_1 ?_
  refine lv_aload_n cx.1 cx.2.1 dX9_locals_4 rfl (lv_at hl 0 rfl) ?_
  refine cd_gI (o := 9) (k := 10) (f := 298) hj cx hw hic9 rfl ⟨by decide, rfl, by decide, rfl⟩ rfl (show _ < 60 by omega) (List.mem_cons_of_mem _ cm_98) dX9_locals_5 ?_
  refine lv_iadd cx.1 cx.2.1 dX9_locals_8 ?_
  exact hp_iret cx hw (cd_ret hj h) dX9_locals_9
set_option maxHeartbeats 4000000 in
set_option maxRecDepth 100000 in
theorem kc_X7_enter (l : Launch) (D : va_G) (cA : Nat → ClassId) (E : hp_N) (sz : Nat) (ad : Nat → Nat → Nat) (ca0 : Nat → Nat) (hj : cd_inj ad ca0) (oq sgq sgv : Nat) (hE : cd_E E oq sgq sgv) (n : Nat) (σ0 : cd_S) (b0 : cd_B) (a0 : Nat) (a1 : Int32) (a2 : Int32) (hb_a0 : a0 < 8) (p : (Int32 × cd_S × cd_B)) (h : f_X7_enter n σ0 b0 a0 a1 a2 = some p) : (p.2.2.1 ≤ b0.1 ∧ p.2.2.2 ≤ b0.2) ∧ Met l yX7_enter (Cond.code yX7_enter cX7_enter 4 none :: v_CLS) ({ frames := 4, cells := b0.1 - p.2.2.1, slots := b0.2 - p.2.2.2, locals := 111 }) (hp_Pc D vwCl (hp_Tl cA) E sz (cd_pic cA ad ca0 σ0) [.ref (ad 7 a0), .int a1, .int a2]) (hp_Qv D vwCl (hp_Tl cA) sz (cd_pic cA ad ca0 σ0) (fun u => ∃ ca1, cd_inj ad ca1 ∧ u = cd_pic cA ad ca1 p.2.1)) (b0.1 - p.2.2.1) (b0.2 - p.2.2.2) (hp_A (cd_pic cA ad ca0 σ0) sz) := by
  obtain ⟨hm0, hn0, h⟩ := cd_cks h
  have hM0 : p.2.2.1 ≤ b0.1 ∧ p.2.2.2 ≤ b0.2 := ⟨hm0, hn0⟩
  refine ⟨hM0, ?_⟩
  refine hp_ofW (cc := cX7_enter) (maxL := 4) (ret := none) (by decide) rfl (Nat.le_of_ble_eq_true rfl) ?_
  intro pp ee ss mm bb mt cd ls cx hsz hw hl
  have hl : lv_has ls 4 [(0, .ref (ad 7 a0)), (1, .int a1), (2, .int a2)] := hl
  refine W.widen (k := b0.1 - b0.1) (n := b0.2 - b0.2) (Nat.zero_le _) (Nat.zero_le _) ?_
  refine lv_aload_n cx.1 cx.2.1 dX7_enter_0 rfl (lv_at hl 0 rfl) ?_
  obtain ⟨u1, e_u1, h⟩ := md_ob h
  have hb_u1 : u1 < 60 := (cd_dps e_u1).2
  refine cd_gP (o2 := 9) (u := u1) (o := 7) (k := 14) (f := 238) hj cx hw hic7 rfl ⟨by decide, rfl, by decide, rfl⟩ rfl (show _ < 8 by omega) rfl e_u1 (List.mem_cons_of_mem _ cm_99) dX7_enter_1 ?_
  refine lv_ifnull cx.1 cx.2.1 dX7_enter_4 ?_
  refine lv_aload_n cx.1 cx.2.1 dX7_enter_7 rfl (lv_at hl 0 rfl) ?_
  refine cd_gI (o := 7) (k := 8) (f := 232) hj cx hw hic7 rfl ⟨by decide, rfl, by decide, rfl⟩ rfl (show _ < 8 by omega) (List.mem_cons_of_mem _ cm_90) dX7_enter_8 ?_
  refine lv_if_lt (tgt := 23) cx.1 cx.2.1 dX7_enter_11 (by decide) (fun c11 => ?_) (fun c11 => ?_)
  · have h := md_ip c11 h
    exact hp_vret cx hw ((cd_retb hj h).2) dX7_enter_23 (cd_le1 h) (cd_le2 h)
  · have h := md_in c11 h
    refine lv_aload_n cx.1 cx.2.1 dX7_enter_14 rfl (lv_at hl 0 rfl) ?_
    refine cd_gI (o := 7) (k := 8) (f := 232) hj cx hw hic7 rfl ⟨by decide, rfl, by decide, rfl⟩ rfl (show _ < 8 by omega) (List.mem_cons_of_mem _ cm_90) dX7_enter_15 ?_
    refine lv_bipush (v := 60) cx.1 cx.2.1 dX7_enter_18 (by decide) ?_
    refine lv_icmp_lt (tgt := 24) cx.1 cx.2.1 dX7_enter_20 (by decide) (fun c20 => ?_) (fun c20 => ?_)
    · have h := md_ip c20 h
      refine lv_aload_n cx.1 cx.2.1 dX7_enter_24 rfl (lv_at hl 0 rfl) ?_
      refine cd_gA (o := 7) (k := 0) (f := 224) hj cx hw hic7 rfl ⟨by decide, rfl, by decide, rfl⟩ rfl (show _ < 8 by omega) (List.mem_cons_of_mem _ cm_100) dX7_enter_25 ?_
      refine lv_aload_n cx.1 cx.2.1 dX7_enter_28 rfl (lv_at hl 0 rfl) ?_
      refine cd_gI (o := 7) (k := 8) (f := 232) hj cx hw hic7 rfl ⟨by decide, rfl, by decide, rfl⟩ rfl (show _ < 8 by omega) (List.mem_cons_of_mem _ cm_90) dX7_enter_29 ?_
      refine lv_aload_n cx.1 cx.2.1 dX7_enter_32 rfl (lv_at hl 0 rfl) ?_
      obtain ⟨u2, e_u2, h⟩ := md_ob h
      have hb_u2 : u2 < 60 := (cd_dps e_u2).2
      refine cd_gP (o2 := 9) (u := u2) (o := 7) (k := 14) (f := 238) hj cx hw hic7 rfl ⟨by decide, rfl, by decide, rfl⟩ rfl (show _ < 8 by omega) rfl e_u2 (List.mem_cons_of_mem _ cm_99) dX7_enter_33 ?_
      refine cd_gI (o := 9) (k := 0) (f := 288) hj cx hw hic9 rfl ⟨by decide, rfl, by decide, rfl⟩ rfl (show _ < 60 by omega) (List.mem_cons_of_mem _ cm_101) dX7_enter_36 ?_
      obtain ⟨σ3, e_σ3, h⟩ := md_ob h
      refine cd_sI (f := 224) hj cx hw (by decide) (show _ < 8 by omega) rfl e_σ3 dX7_enter_39 (fun H locs hw => ?_)
      refine lv_aload_n cx.1 cx.2.1 dX7_enter_40 rfl (lv_at hl 0 rfl) ?_
      refine cd_gA (o := 7) (k := 1) (f := 225) hj cx hw hic7 rfl ⟨by decide, rfl, by decide, rfl⟩ rfl (show _ < 8 by omega) (List.mem_cons_of_mem _ cm_102) dX7_enter_41 ?_
      refine lv_aload_n cx.1 cx.2.1 dX7_enter_44 rfl (lv_at hl 0 rfl) ?_
      refine cd_gI (o := 7) (k := 8) (f := 232) hj cx hw hic7 rfl ⟨by decide, rfl, by decide, rfl⟩ rfl (show _ < 8 by omega) (List.mem_cons_of_mem _ cm_90) dX7_enter_45 ?_
      refine lv_iconst (v := 0) cx.1 cx.2.1 dX7_enter_48 (by decide) ?_
      obtain ⟨σ4, e_σ4, h⟩ := md_ob h
      refine cd_sI (f := 225) hj cx hw (by decide) (show _ < 8 by omega) rfl e_σ4 dX7_enter_49 (fun H locs hw => ?_)
      refine lv_aload_n cx.1 cx.2.1 dX7_enter_50 rfl (lv_at hl 0 rfl) ?_
      refine cd_gA (o := 7) (k := 2) (f := 226) hj cx hw hic7 rfl ⟨by decide, rfl, by decide, rfl⟩ rfl (show _ < 8 by omega) (List.mem_cons_of_mem _ cm_103) dX7_enter_51 ?_
      refine lv_aload_n cx.1 cx.2.1 dX7_enter_54 rfl (lv_at hl 0 rfl) ?_
      refine cd_gI (o := 7) (k := 8) (f := 232) hj cx hw hic7 rfl ⟨by decide, rfl, by decide, rfl⟩ rfl (show _ < 8 by omega) (List.mem_cons_of_mem _ cm_90) dX7_enter_55 ?_
      refine lv_aload_n cx.1 cx.2.1 dX7_enter_58 rfl (lv_at hl 0 rfl) ?_
      refine cd_gI (o := 7) (k := 15) (f := 239) hj cx hw hic7 rfl ⟨by decide, rfl, by decide, rfl⟩ rfl (show _ < 8 by omega) (List.mem_cons_of_mem _ cm_104) dX7_enter_59 ?_
      obtain ⟨σ5, e_σ5, h⟩ := md_ob h
      refine cd_sI (f := 226) hj cx hw (by decide) (show _ < 8 by omega) rfl e_σ5 dX7_enter_62 (fun H locs hw => ?_)
      refine lv_aload_n cx.1 cx.2.1 dX7_enter_63 rfl (lv_at hl 0 rfl) ?_
      refine cd_gA (o := 7) (k := 3) (f := 227) hj cx hw hic7 rfl ⟨by decide, rfl, by decide, rfl⟩ rfl (show _ < 8 by omega) (List.mem_cons_of_mem _ cm_105) dX7_enter_64 ?_
      refine lv_aload_n cx.1 cx.2.1 dX7_enter_67 rfl (lv_at hl 0 rfl) ?_
      refine cd_gI (o := 7) (k := 8) (f := 232) hj cx hw hic7 rfl ⟨by decide, rfl, by decide, rfl⟩ rfl (show _ < 8 by omega) (List.mem_cons_of_mem _ cm_90) dX7_enter_68 ?_
      refine lv_aload_n cx.1 cx.2.1 dX7_enter_71 rfl (lv_at hl 0 rfl) ?_
      refine cd_gI (o := 7) (k := 16) (f := 240) hj cx hw hic7 rfl ⟨by decide, rfl, by decide, rfl⟩ rfl (show _ < 8 by omega) (List.mem_cons_of_mem _ cm_106) dX7_enter_72 ?_
      obtain ⟨σ6, e_σ6, h⟩ := md_ob h
      refine cd_sI (f := 227) hj cx hw (by decide) (show _ < 8 by omega) rfl e_σ6 dX7_enter_75 (fun H locs hw => ?_)
      refine lv_aload_n cx.1 cx.2.1 dX7_enter_76 rfl (lv_at hl 0 rfl) ?_
      refine cd_gA (o := 7) (k := 4) (f := 228) hj cx hw hic7 rfl ⟨by decide, rfl, by decide, rfl⟩ rfl (show _ < 8 by omega) (List.mem_cons_of_mem _ cm_107) dX7_enter_77 ?_
      refine lv_aload_n cx.1 cx.2.1 dX7_enter_80 rfl (lv_at hl 0 rfl) ?_
      refine cd_gI (o := 7) (k := 8) (f := 232) hj cx hw hic7 rfl ⟨by decide, rfl, by decide, rfl⟩ rfl (show _ < 8 by omega) (List.mem_cons_of_mem _ cm_90) dX7_enter_81 ?_
      refine lv_iload_n cx.1 cx.2.1 dX7_enter_84 rfl (lv_at hl 1 rfl) ?_
      obtain ⟨σ7, e_σ7, h⟩ := md_ob h
      refine cd_sI (f := 228) hj cx hw (by decide) (show _ < 8 by omega) rfl e_σ7 dX7_enter_85 (fun H locs hw => ?_)
      refine lv_aload_n cx.1 cx.2.1 dX7_enter_86 rfl (lv_at hl 0 rfl) ?_
      refine cd_gA (o := 7) (k := 5) (f := 229) hj cx hw hic7 rfl ⟨by decide, rfl, by decide, rfl⟩ rfl (show _ < 8 by omega) (List.mem_cons_of_mem _ cm_96) dX7_enter_87 ?_
      refine lv_aload_n cx.1 cx.2.1 dX7_enter_90 rfl (lv_at hl 0 rfl) ?_
      refine cd_gI (o := 7) (k := 8) (f := 232) hj cx hw hic7 rfl ⟨by decide, rfl, by decide, rfl⟩ rfl (show _ < 8 by omega) (List.mem_cons_of_mem _ cm_90) dX7_enter_91 ?_
      refine lv_iload_n cx.1 cx.2.1 dX7_enter_94 rfl (lv_at hl 2 rfl) ?_
      obtain ⟨σ8, e_σ8, h⟩ := md_ob h
      refine cd_sI (f := 229) hj cx hw (by decide) (show _ < 8 by omega) rfl e_σ8 dX7_enter_95 (fun H locs hw => ?_)
      refine lv_aload_n cx.1 cx.2.1 dX7_enter_96 rfl (lv_at hl 0 rfl) ?_
      refine lv_dup cx.1 cx.2.1 dX7_enter_97 rfl ?_
      refine cd_gI (o := 7) (k := 8) (f := 232) hj cx hw hic7 rfl ⟨by decide, rfl, by decide, rfl⟩ rfl (show _ < 8 by omega) (List.mem_cons_of_mem _ cm_90) dX7_enter_98 ?_
      refine lv_iconst (v := 1) cx.1 cx.2.1 dX7_enter_101 (by decide) ?_
      refine lv_iadd cx.1 cx.2.1 dX7_enter_102 ?_
      obtain ⟨σ9, e_σ9, h⟩ := md_ob h
      refine cd_pI (o := 7) (k := 8) (f := 232) hj cx hw hic7 rfl ⟨by decide, rfl, by decide, rfl⟩ tyX7_ok nmX7 rfl (show _ < 8 by omega) rfl (List.mem_cons_of_mem _ cm_90) rfl e_σ9 dX7_enter_103 (fun H locs hw => ?_)
      refine lv_aload_n cx.1 cx.2.1 dX7_enter_106 rfl (lv_at hl 0 rfl) ?_
      refine lv_dup cx.1 cx.2.1 dX7_enter_107 rfl ?_
      refine cd_gI (o := 7) (k := 9) (f := 233) hj cx hw hic7 rfl ⟨by decide, rfl, by decide, rfl⟩ rfl (show _ < 8 by omega) (List.mem_cons_of_mem _ cm_108) dX7_enter_108 ?_
      refine lv_iconst (v := 1) cx.1 cx.2.1 dX7_enter_111 (by decide) ?_
      refine lv_iadd cx.1 cx.2.1 dX7_enter_112 ?_
      obtain ⟨σ10, e_σ10, h⟩ := md_ob h
      refine cd_pI (o := 7) (k := 9) (f := 233) hj cx hw hic7 rfl ⟨by decide, rfl, by decide, rfl⟩ tyX7_ok nmX7 rfl (show _ < 8 by omega) rfl (List.mem_cons_of_mem _ cm_108) rfl e_σ10 dX7_enter_113 (fun H locs hw => ?_)
      refine lv_aload_n cx.1 cx.2.1 dX7_enter_116 rfl (lv_at hl 0 rfl) ?_
      refine cd_gO (o2 := 6) (e2 := (9 + 1 * a0)) (o := 7) (k := 6) (f := 230) hj cx hw hic7 rfl ⟨by decide, rfl, by decide, rfl⟩ rfl (show _ < 8 by omega) ⟨rfl, rfl⟩ (List.mem_cons_of_mem _ cm_109) dX7_enter_117 ?_
      refine cd_gI (o := 6) (k := 1) (f := 193) hj cx hw hic6 rfl ⟨by decide, rfl, by decide, rfl⟩ rfl (show _ < 197 by omega) (List.mem_cons_of_mem _ cm_110) dX7_enter_120 ?_
      refine lv_istore_n (lv' := [(3, .int (cI σ10 193 ((9 + 1 * a0)))), (0, .ref (ad 7 a0)), (1, .int a1), (2, .int a2)]) cx.1 cx.2.1 dX7_enter_123 rfl hl (by decide) rfl (fun ls hl => ?_)
      have L124 : ∀ (j : Nat) (ca : Nat → Nat) (hj : cd_inj ad ca) (σ : cd_S) (b : cd_B) (l3 : Int32) (q : (cd_S × cd_B × Int32)) (H : Heap) (locs : List Loc) (ls : Array Slot), b.1 ≤ b0.1 → b.2 ≤ b0.2 → p.2.2.1 ≤ b.1 → p.2.2.2 ≤ b.2 → p.2.2.1 ≤ q.2.1.1 → p.2.2.2 ≤ q.2.1.2 → f_X7_enter_L124 n a0 j σ b l3 = some q → hp_w D vwCl (hp_Tl cA) E (hp_A (cd_pic cA ad ca0 σ0) sz) ss H locs (cd_pic cA ad ca σ) → lv_has ls 4 [(0, .ref (ad 7 a0)), (3, .int l3)] → (∀ (ca : Nat → Nat) (hj : cd_inj ad ca) (H : Heap) (locs : List Loc) (ls : Array Slot), q.2.1.1 ≤ b0.1 → q.2.1.2 ≤ b0.2 → hp_w D vwCl (hp_Tl cA) E (hp_A (cd_pic cA ad ca0 σ0) sz) ss H locs (cd_pic cA ad ca q.1) → lv_has ls 4 [] → W pp l ee ({ frames := 4, cells := b0.1 - p.2.2.1, slots := b0.2 - p.2.2.2, locals := 111 }) ss mm [.ref (ad 7 a0), .int a1, .int a2].toArray bb mt cd H locs (b0.1 - q.2.1.1) (b0.2 - q.2.1.2) (MQ bb (hp_Qv D vwCl (hp_Tl cA) sz (cd_pic cA ad ca0 σ0) (fun u => ∃ ca1, cd_inj ad ca1 ∧ u = cd_pic cA ad ca1 p.2.1)) [.ref (ad 7 a0), .int a1, .int a2].toArray ss (b0.1 - p.2.2.1) (b0.2 - p.2.2.2) (hp_A (cd_pic cA ad ca0 σ0) sz)) (F0 mm 156 ls [])) → W pp l ee ({ frames := 4, cells := b0.1 - p.2.2.1, slots := b0.2 - p.2.2.2, locals := 111 }) ss mm [.ref (ad 7 a0), .int a1, .int a2].toArray bb mt cd H locs (b0.1 - b.1) (b0.2 - b.2) (MQ bb (hp_Qv D vwCl (hp_Tl cA) sz (cd_pic cA ad ca0 σ0) (fun u => ∃ ca1, cd_inj ad ca1 ∧ u = cd_pic cA ad ca1 p.2.1)) [.ref (ad 7 a0), .int a1, .int a2].toArray ss (b0.1 - p.2.2.1) (b0.2 - p.2.2.2) (hp_A (cd_pic cA ad ca0 σ0) sz)) (F0 mm 124 ls []) := by
        intro j
        induction j with
        | zero => intro ca hj σ b l3 q H locs ls hb1 hb2 hf1 hf2 hq1 hq2 h; exact nomatch h
        | succ j ih =>
          intro ca hj σ b l3 q H locs ls hb1 hb2 hf1 hf2 hq1 hq2 h hw hl K
          unfold f_X7_enter_L124 at h
          refine lv_iload_n cx.1 cx.2.1 dX7_enter_124 rfl (lv_at hl 1 rfl) ?_
          refine lv_aload_n cx.1 cx.2.1 dX7_enter_125 rfl (lv_at hl 0 rfl) ?_
          refine cd_gI (o := 7) (k := 15) (f := 239) hj cx hw hic7 rfl ⟨by decide, rfl, by decide, rfl⟩ rfl (show _ < 8 by omega) (List.mem_cons_of_mem _ cm_104) dX7_enter_126 ?_
          refine lv_aload_n cx.1 cx.2.1 dX7_enter_129 rfl (lv_at hl 0 rfl) ?_
          obtain ⟨u11, e_u11, h⟩ := md_ob h
          have hb_u11 : u11 < 60 := (cd_dps e_u11).2
          refine cd_gP (o2 := 9) (u := u11) (o := 7) (k := 14) (f := 238) hj cx hw hic7 rfl ⟨by decide, rfl, by decide, rfl⟩ rfl (show _ < 8 by omega) rfl e_u11 (List.mem_cons_of_mem _ cm_99) dX7_enter_130 ?_
          obtain ⟨p12, e_p12, h⟩ := md_ob h
          refine hp_callVi (As := []) (rest := [.int (cI σ 239 a0), .int l3]) cx hw (kc_X9_locals l D cA E _ ad _ hj oq sgq sgv hE n σ u11 (show _ < 60 by omega) p12 e_p12) (cwV 0 cx.2.2.2.2.2.1 (cd_giV cm_111 cm_112 cm_113 cm_114 cm_115) rfl rfl rfl hdc_X9_locals ⟨Nat.le_of_ble_eq_true rfl, Nat.le_of_ble_eq_true rfl⟩) (cd_atO hj (by decide) (show _ < 60 by omega)) rfl rfl hl.1 rfl (Nat.le_of_ble_eq_true rfl) dX7_enter_133 ⟨by (try dsimp only); omega, by (try dsimp only); omega⟩ (fun r u H locs hp hw => ?_)
          obtain ⟨rfl, ca, hj, rfl⟩ := hp
          refine lv_iadd cx.1 cx.2.1 dX7_enter_136 ?_
          refine lv_icmp_ge (tgt := 156) cx.1 cx.2.1 dX7_enter_137 (by decide) (fun c137 => ?_) (fun c137 => ?_)
          · have h := md_ip c137 h
            obtain rfl := Option.some.inj h
            exact K _ hj _ _ _ (by (try dsimp only); omega) (by (try dsimp only); omega) hw (lv_sub hl [] rfl)
          · have h := md_in c137 h
            refine lv_aload_n cx.1 cx.2.1 dX7_enter_140 rfl (lv_at hl 0 rfl) ?_
            refine cd_gO (o2 := 6) (e2 := (9 + 1 * a0)) (o := 7) (k := 6) (f := 230) hj cx hw hic7 rfl ⟨by decide, rfl, by decide, rfl⟩ rfl (show _ < 8 by omega) ⟨rfl, rfl⟩ (List.mem_cons_of_mem _ cm_109) dX7_enter_141 ?_
            refine lv_ldc2 cx.1 cx.2.1 cx.2.2.2.2.1 (cx.2.2.2.2.2.1 _ (List.mem_cons_of_mem _ cm_116)) dX7_enter_144 ?_
            obtain ⟨p13, e_p13, h⟩ := md_ob h
            obtain ⟨hm14, hn14, h⟩ := cd_cks h
            have hM14 : p.2.2.1 ≤ p13.2.2.1 ∧ p.2.2.2 ≤ p13.2.2.2 := ⟨Nat.le_trans hq1 hm14, Nat.le_trans hq2 hn14⟩
            have hle13 := (kc_X6_add l D cA E sz ad _ hj oq sgq sgv hE n p12.2 b ((9 + 1 * a0)) (4294967296 : Int64) (show _ < 197 by omega) p13 e_p13).1
            refine hp_callVv (As := [.long 4294967296]) (rest := []) cx hw ((kc_X6_add l D cA E _ ad _ hj oq sgq sgv hE n p12.2 b ((9 + 1 * a0)) (4294967296 : Int64) (show _ < 197 by omega) p13 e_p13).2) (cwV 1 cx.2.2.2.2.2.1 (cd_giV cm_117 cm_40 cm_41 cm_5 cm_42) rfl rfl rfl hdc_X6_add ⟨Nat.le_of_ble_eq_true rfl, Nat.le_of_ble_eq_true rfl⟩) (cd_atO hj (by decide) (show _ < 197 by omega)) rfl rfl hl.1 rfl (Nat.le_of_ble_eq_true rfl) dX7_enter_147 ⟨by (try dsimp only); omega, by (try dsimp only); omega⟩ (fun u H locs hp hw => ?_)
            obtain ⟨ca, hj, rfl⟩ := hp
            refine W.widen (k := b0.1 - p13.2.2.1) (n := b0.2 - p13.2.2.2) (by omega) (by omega) ?_
            refine lv_iinc (v := (l3 + 1)) (lv' := [(3, .int (l3 + 1)), (0, .ref (ad 7 a0))]) cx.1 cx.2.1 dX7_enter_150 hl (k := 1) rfl rfl (by decide) rfl (fun ls hl => ?_)
            refine lv_goto (tgt := 124) cx.1 cx.2.1 dX7_enter_153 (by decide) ?_
            exact ih _ hj p13.2.1 (p13.2.2) ((l3 + 1)) q _ _ _ (by omega) (by omega) (by omega) (by omega) hq1 hq2 h hw (lv_sub hl [1, 0] rfl) K
      obtain ⟨q15, e_q15, h⟩ := md_ob h
      obtain ⟨hm16, hn16, h⟩ := cd_cks h
      have hM16 : p.2.2.1 ≤ q15.2.1.1 ∧ p.2.2.2 ≤ q15.2.1.2 := ⟨hm16, hn16⟩
      refine L124 n _ hj σ10 b0 ((cI σ10 193 ((9 + 1 * a0)))) q15 _ _ _ (by omega) (by omega) (by omega) (by omega) hM16.1 hM16.2 e_q15 hw (lv_sub hl [1, 0] rfl) (fun ca hj H locs ls hb1 hb2 hw hl => ?_)
      exact hp_vret cx hw ((cd_retb hj h).2) dX7_enter_156 (cd_le1 h) (cd_le2 h)
    · have h := md_in c20 h
      exact hp_vret cx hw ((cd_retb hj h).2) dX7_enter_23 (cd_le1 h) (cd_le2 h)
set_option maxHeartbeats 4000000 in
set_option maxRecDepth 100000 in
theorem kc_X7_nodeNow (l : Launch) (D : va_G) (cA : Nat → ClassId) (E : hp_N) (sz : Nat) (ad : Nat → Nat → Nat) (ca0 : Nat → Nat) (hj : cd_inj ad ca0) (oq sgq sgv : Nat) (hE : cd_E E oq sgq sgv) (n : Nat) (σ0 : cd_S) (a0 : Nat) (hb_a0 : a0 < 8) (p : (Int32 × cd_S)) (h : f_X7_nodeNow n σ0 a0 = some p) : Met l yX7_nodeNow (Cond.code yX7_nodeNow cX7_nodeNow 1 (some .int) :: v_CLS) ({ frames := 1, cells := 0, slots := 0, locals := 20 }) (hp_Pc D vwCl (hp_Tl cA) E sz (cd_pic cA ad ca0 σ0) [.ref (ad 7 a0)]) (hp_Qi D vwCl (hp_Tl cA) sz (cd_pic cA ad ca0 σ0) (fun r u => r = p.1 ∧ ∃ ca1, cd_inj ad ca1 ∧ u = cd_pic cA ad ca1 p.2)) 0 0 (hp_A (cd_pic cA ad ca0 σ0) sz) := by
  refine hp_ofW (cc := cX7_nodeNow) (maxL := 1) (ret := (some .int)) (by decide) rfl (Nat.le_of_ble_eq_true rfl) ?_
  intro pp ee ss mm bb mt cd ls cx hsz hw hl
  have hl : lv_has ls 1 [(0, .ref (ad 7 a0))] := hl
  refine lv_aload_n cx.1 cx.2.1 dX7_nodeNow_0 rfl (lv_at hl 0 rfl) ?_
  obtain ⟨p1, e_p1, h⟩ := md_ob h
  refine hp_callVi (As := []) (rest := []) cx hw (kc_X7_framed l D cA E _ ad _ hj oq sgq sgv hE n σ0 a0 (show _ < 8 by omega) p1 e_p1) (cwV 0 cx.2.2.2.2.2.1 (cd_giV cm_91 cm_92 cm_93 cm_94 cm_95) rfl rfl rfl hdc_X7_framed ⟨Nat.le_of_ble_eq_true rfl, Nat.le_of_ble_eq_true rfl⟩) (cd_atO hj (by decide) (show _ < 8 by omega)) rfl rfl hl.1 rfl (Nat.le_of_ble_eq_true rfl) dX7_nodeNow_1 ⟨Nat.le_refl _, Nat.le_refl _⟩ (fun r u H locs hp hw => ?_)
  obtain ⟨rfl, ca, hj, rfl⟩ := hp
  refine lv_if_eq (tgt := 21) cx.1 cx.2.1 dX7_nodeNow_4 (by decide) (fun c4 => ?_) (fun c4 => ?_)
  · have h := md_ip c4 h
    refine lv_iconst (v := (-1)) cx.1 cx.2.1 dX7_nodeNow_21 (by decide) ?_
    exact hp_iret cx hw (cd_ret hj h) dX7_nodeNow_22
  · have h := md_in c4 h
    refine lv_aload_n cx.1 cx.2.1 dX7_nodeNow_7 rfl (lv_at hl 0 rfl) ?_
    refine cd_gA (o := 7) (k := 4) (f := 228) hj cx hw hic7 rfl ⟨by decide, rfl, by decide, rfl⟩ rfl (show _ < 8 by omega) (List.mem_cons_of_mem _ cm_107) dX7_nodeNow_8 ?_
    refine lv_aload_n cx.1 cx.2.1 dX7_nodeNow_11 rfl (lv_at hl 0 rfl) ?_
    refine cd_gI (o := 7) (k := 8) (f := 232) hj cx hw hic7 rfl ⟨by decide, rfl, by decide, rfl⟩ rfl (show _ < 8 by omega) (List.mem_cons_of_mem _ cm_90) dX7_nodeNow_12 ?_
    refine lv_iconst (v := 1) cx.1 cx.2.1 dX7_nodeNow_15 (by decide) ?_
    refine lv_isub cx.1 cx.2.1 dX7_nodeNow_16 ?_
    obtain ⟨v2, e_v2, h⟩ := md_ob h
    refine cd_lI (f := 228) hj cx hw (by decide) (show _ < 8 by omega) rfl e_v2 dX7_nodeNow_17 ?_
    refine lv_goto (tgt := 22) cx.1 cx.2.1 dX7_nodeNow_18 (by decide) ?_
    exact hp_iret cx hw (cd_ret hj h) dX7_nodeNow_22
set_option maxHeartbeats 4000000 in
set_option maxRecDepth 100000 in
theorem kc_X1_begin (l : Launch) (D : va_G) (cA : Nat → ClassId) (E : hp_N) (sz : Nat) (ad : Nat → Nat → Nat) (ca0 : Nat → Nat) (hj : cd_inj ad ca0) (oq sgq sgv : Nat) (hE : cd_E E oq sgq sgv) (n : Nat) (σ0 : cd_S) (b0 : cd_B) (a1 : Nat) (hb_a1 : a1 < 8) (p : (Int32 × cd_S × cd_B)) (h : f_X1_begin n σ0 b0 a1 = some p) : (p.2.2.1 ≤ b0.1 ∧ p.2.2.2 ≤ b0.2) ∧ Met l yX1_begin (Cond.code yX1_begin cX1_begin 5 (some .int) :: v_CLS) ({ frames := 7, cells := b0.1 - p.2.2.1, slots := b0.2 - p.2.2.2, locals := 180 }) (hp_Pc D vwCl (hp_Tl cA) E sz (cd_pic cA ad ca0 σ0) [.ref (ad 1 0), .ref (ad 7 a1)]) (hp_Qi D vwCl (hp_Tl cA) sz (cd_pic cA ad ca0 σ0) (fun r u => r = p.1 ∧ ∃ ca1, cd_inj ad ca1 ∧ u = cd_pic cA ad ca1 p.2.1)) (b0.1 - p.2.2.1) (b0.2 - p.2.2.2) (hp_A (cd_pic cA ad ca0 σ0) sz) := by
  obtain ⟨hm0, hn0, h⟩ := cd_cks h
  have hM0 : p.2.2.1 ≤ b0.1 ∧ p.2.2.2 ≤ b0.2 := ⟨hm0, hn0⟩
  refine ⟨hM0, ?_⟩
  refine hp_ofW (cc := cX1_begin) (maxL := 5) (ret := (some .int)) (by decide) rfl (Nat.le_of_ble_eq_true rfl) ?_
  intro pp ee ss mm bb mt cd ls cx hsz hw hl
  have hl : lv_has ls 5 [(0, .ref (ad 1 0)), (1, .ref (ad 7 a1))] := hl
  refine W.widen (k := b0.1 - b0.1) (n := b0.2 - b0.2) (Nat.zero_le _) (Nat.zero_le _) ?_
  have J110 : ∀ (ca : Nat → Nat) (hj : cd_inj ad ca) (σ : cd_S) (b : cd_B) (l3 : Int32) (t0 : Int32) (H : Heap) (locs : List Loc) (ls : Array Slot), b.1 ≤ b0.1 → b.2 ≤ b0.2 → p.2.2.1 ≤ b.1 → p.2.2.2 ≤ b.2 → f_X1_begin_J110 n a1 σ b l3 t0 = some p → hp_w D vwCl (hp_Tl cA) E (hp_A (cd_pic cA ad ca0 σ0) sz) ss H locs (cd_pic cA ad ca σ) → lv_has ls 5 [(0, .ref (ad 1 0)), (1, .ref (ad 7 a1)), (3, .int l3)] → W pp l ee ({ frames := 7, cells := b0.1 - p.2.2.1, slots := b0.2 - p.2.2.2, locals := 180 }) ss mm [.ref (ad 1 0), .ref (ad 7 a1)].toArray bb mt cd H locs (b0.1 - b.1) (b0.2 - b.2) (MQ bb (hp_Qi D vwCl (hp_Tl cA) sz (cd_pic cA ad ca0 σ0) (fun r u => r = p.1 ∧ ∃ ca1, cd_inj ad ca1 ∧ u = cd_pic cA ad ca1 p.2.1)) [.ref (ad 1 0), .ref (ad 7 a1)].toArray ss (b0.1 - p.2.2.1) (b0.2 - p.2.2.2) (hp_A (cd_pic cA ad ca0 σ0) sz)) (F0 mm 110 ls [.int t0]) := by
    intro ca hj σ b l3 t0 H locs ls hb1 hb2 hf1 hf2 h hw hl
    refine lv_istore (lv' := [(4, .int t0), (0, .ref (ad 1 0)), (1, .ref (ad 7 a1)), (3, .int l3)]) cx.1 cx.2.1 dX1_begin_110 hl (by decide) rfl (fun ls hl => ?_)
    refine lv_aload_n cx.1 cx.2.1 dX1_begin_112 rfl (lv_at hl 1 rfl) ?_
    obtain ⟨u1, e_u1, h⟩ := md_ob h
    have hb_u1 : u1 < 8 := (cd_dps e_u1).2
    refine cd_gP (o2 := 7) (u := u1) (o := 1) (k := 18) (f := 50) hj cx hw hic1 rfl ⟨by decide, rfl, by decide, rfl⟩ rfl (by decide) rfl e_u1 (List.mem_cons_of_mem _ cm_72) dX1_begin_113 ?_
    refine lv_iload_n cx.1 cx.2.1 dX1_begin_116 rfl (lv_at hl 3 rfl) ?_
    refine lv_iload cx.1 cx.2.1 dX1_begin_117 (lv_at hl 0 rfl) ?_
    obtain ⟨p2, e_p2, h⟩ := md_ob h
    obtain ⟨hm3, hn3, h⟩ := cd_cks h
    have hM3 : p.2.2.1 ≤ p2.2.2.1 ∧ p.2.2.2 ≤ p2.2.2.2 := ⟨hm3, hn3⟩
    have hle2 := (kc_X7_enter l D cA E sz ad _ hj oq sgq sgv hE n σ b u1 l3 t0 (show _ < 8 by omega) p2 e_p2).1
    refine hp_callVv (As := [.int l3, .int t0]) (rest := []) cx hw ((kc_X7_enter l D cA E _ ad _ hj oq sgq sgv hE n σ b u1 l3 t0 (show _ < 8 by omega) p2 e_p2).2) (cwV 2 cx.2.2.2.2.2.1 (cd_giV cm_144 cm_145 cm_146 cm_94 cm_147) rfl rfl rfl hdc_X7_enter ⟨Nat.le_of_ble_eq_true rfl, Nat.le_of_ble_eq_true rfl⟩) (cd_atO hj (by decide) (show _ < 8 by omega)) rfl rfl hl.1 rfl (Nat.le_of_ble_eq_true rfl) dX1_begin_119 ⟨by (try dsimp only); omega, by (try dsimp only); omega⟩ (fun u H locs hp hw => ?_)
    obtain ⟨ca, hj, rfl⟩ := hp
    refine W.widen (k := b0.1 - p2.2.2.1) (n := b0.2 - p2.2.2.2) (by omega) (by omega) ?_
    refine lv_aload_n cx.1 cx.2.1 dX1_begin_122 rfl (lv_at hl 1 rfl) ?_
    refine lv_aload_n cx.1 cx.2.1 dX1_begin_123 rfl (lv_at hl 1 rfl) ?_
    refine cd_gI (o := 1) (k := 13) (f := 45) hj cx hw hic1 rfl ⟨by decide, rfl, by decide, rfl⟩ rfl (by decide) (List.mem_cons_of_mem _ cm_148) dX1_begin_124 ?_
    refine lv_aload_n cx.1 cx.2.1 dX1_begin_127 rfl (lv_at hl 1 rfl) ?_
    obtain ⟨u4, e_u4, h⟩ := md_ob h
    have hb_u4 : u4 < 8 := (cd_dps e_u4).2
    refine cd_gP (o2 := 7) (u := u4) (o := 1) (k := 18) (f := 50) hj cx hw hic1 rfl ⟨by decide, rfl, by decide, rfl⟩ rfl (by decide) rfl e_u4 (List.mem_cons_of_mem _ cm_72) dX1_begin_128 ?_
    refine cd_gI (o := 7) (k := 8) (f := 232) hj cx hw hic7 rfl ⟨by decide, rfl, by decide, rfl⟩ rfl (show _ < 8 by omega) (List.mem_cons_of_mem _ cm_121) dX1_begin_131 ?_
    refine hp_max cx hw (cx.2.2.2.2.2.1 _ (List.mem_cons_of_mem _ cm_149)) (cx.2.2.2.2.2.1 _ (List.mem_cons_of_mem _ cm_150)) (cx.2.2.2.2.2.1 _ (List.mem_cons_of_mem _ cm_151)) (cx.2.2.2.2.2.1 _ (List.mem_cons_of_mem _ cm_152)) hl.1 dX1_begin_134 ⟨Nat.le_of_ble_eq_true rfl, Nat.le_of_ble_eq_true rfl, by (try dsimp only); omega, by (try dsimp only); omega⟩ ?_
    obtain ⟨σ6, e_σ6, h⟩ := md_ob h
    refine cd_pI (o := 1) (k := 13) (f := 45) hj cx hw hic1 rfl ⟨by decide, rfl, by decide, rfl⟩ tyX1_ok nmX1 rfl (by decide) rfl (List.mem_cons_of_mem _ cm_148) rfl e_σ6 dX1_begin_137 (fun H locs hw => ?_)
    refine lv_aload_n cx.1 cx.2.1 dX1_begin_140 rfl (lv_at hl 1 rfl) ?_
    obtain ⟨u7, e_u7, h⟩ := md_ob h
    have hb_u7 : u7 < 8 := (cd_dps e_u7).2
    refine cd_gP (o2 := 7) (u := u7) (o := 1) (k := 18) (f := 50) hj cx hw hic1 rfl ⟨by decide, rfl, by decide, rfl⟩ rfl (by decide) rfl e_u7 (List.mem_cons_of_mem _ cm_72) dX1_begin_141 ?_
    refine lv_aload_n cx.1 cx.2.1 dX1_begin_144 rfl (lv_at hl 2 rfl) ?_
    refine cd_acmp_ne (tgt := 150) hj (by decide) (by decide) (show _ < 8 by omega) (show _ < 8 by omega) cx.1 cx.2.1 dX1_begin_145 (by decide) (fun c145 => ?_) (fun c145 => ?_)
    · have h := md_in c145 h
      refine lv_aload_n cx.1 cx.2.1 dX1_begin_150 rfl (lv_at hl 2 rfl) ?_
      refine lv_iconst (v := 0) cx.1 cx.2.1 dX1_begin_151 (by decide) ?_
      refine lv_aload_n cx.1 cx.2.1 dX1_begin_152 rfl (lv_at hl 1 rfl) ?_
      refine cd_gI (o := 1) (k := 8) (f := 40) hj cx hw hic1 rfl ⟨by decide, rfl, by decide, rfl⟩ rfl (by decide) (List.mem_cons_of_mem _ cm_153) dX1_begin_153 ?_
      obtain ⟨p8, e_p8, h⟩ := md_ob h
      refine hp_callSl (As := [.int 0, .int (cI σ6 40 0)]) (rest := [.ref (ad 7 a1)]) cx hw (kc_X1_valueOf l D cA E _ ad _ hj oq sgq sgv hE n σ6 (0 : Int32) ((cI σ6 40 0)) p8 e_p8) (cwS 2 cx.2.2.2.2.2.1 (cd_giS cm_154 cm_155 cm_130 cm_156) rfl rfl rfl hdc_X1_valueOf ⟨Nat.le_of_ble_eq_true rfl, Nat.le_of_ble_eq_true rfl⟩) rfl hl.1 rfl (Nat.le_of_ble_eq_true rfl) dX1_begin_156 ⟨by (try dsimp only); omega, by (try dsimp only); omega⟩ (fun r u H locs hp hw => ?_)
      obtain ⟨rfl, ca, hj, rfl⟩ := hp
      obtain ⟨p9, e_p9, h⟩ := md_ob h
      obtain ⟨hm10, hn10, h⟩ := cd_cks h
      have hM10 : p.2.2.1 ≤ p9.2.2.1 ∧ p.2.2.2 ≤ p9.2.2.2 := ⟨hm10, hn10⟩
      have hle9 := (kc_X1_push l D cA E sz ad _ hj oq sgq sgv hE n p8.2 (p2.2.2) a1 (p8.1) (show _ < 8 by omega) p9 e_p9).1
      refine hp_callSi (As := [.ref (ad 7 a1), .long p8.1]) (rest := []) cx hw ((kc_X1_push l D cA E _ ad _ hj oq sgq sgv hE n p8.2 (p2.2.2) a1 (p8.1) (show _ < 8 by omega) p9 e_p9).2) (cwS 2 cx.2.2.2.2.2.1 (cd_giS cm_157 cm_158 cm_130 cm_159) rfl rfl rfl hdc_X1_push ⟨Nat.le_of_ble_eq_true rfl, Nat.le_of_ble_eq_true rfl⟩) rfl hl.1 rfl (Nat.le_of_ble_eq_true rfl) dX1_begin_159 ⟨by (try dsimp only); omega, by (try dsimp only); omega⟩ (fun r u H locs hp hw => ?_)
      obtain ⟨rfl, ca, hj, rfl⟩ := hp
      refine W.widen (k := b0.1 - p9.2.2.1) (n := b0.2 - p9.2.2.2) (by omega) (by omega) ?_
      refine lv_pop cx.1 cx.2.1 dX1_begin_162 rfl ?_
      refine lv_aload_n cx.1 cx.2.1 dX1_begin_163 rfl (lv_at hl 1 rfl) ?_
      refine lv_dup cx.1 cx.2.1 dX1_begin_164 rfl ?_
      refine cd_gI (o := 1) (k := 8) (f := 40) hj cx hw hic1 rfl ⟨by decide, rfl, by decide, rfl⟩ rfl (by decide) (List.mem_cons_of_mem _ cm_153) dX1_begin_165 ?_
      refine lv_iconst (v := 1) cx.1 cx.2.1 dX1_begin_168 (by decide) ?_
      refine lv_iadd cx.1 cx.2.1 dX1_begin_169 ?_
      obtain ⟨σ11, e_σ11, h⟩ := md_ob h
      refine cd_pI (o := 1) (k := 8) (f := 40) hj cx hw hic1 rfl ⟨by decide, rfl, by decide, rfl⟩ tyX1_ok nmX1 rfl (by decide) rfl (List.mem_cons_of_mem _ cm_153) rfl e_σ11 dX1_begin_170 (fun H locs hw => ?_)
      refine lv_iconst (v := 1) cx.1 cx.2.1 dX1_begin_173 (by decide) ?_
      exact hp_iret cx hw (cd_retb hj h) dX1_begin_174 (cd_le1 h) (cd_le2 h)
    · have h := md_ip c145 h
      refine lv_iconst (v := 0) cx.1 cx.2.1 dX1_begin_148 (by decide) ?_
      exact hp_iret cx hw (cd_retb hj h) dX1_begin_149 (cd_le1 h) (cd_le2 h)
  have J109 : ∀ (ca : Nat → Nat) (hj : cd_inj ad ca) (σ : cd_S) (b : cd_B) (l3 : Int32) (H : Heap) (locs : List Loc) (ls : Array Slot), b.1 ≤ b0.1 → b.2 ≤ b0.2 → p.2.2.1 ≤ b.1 → p.2.2.2 ≤ b.2 → f_X1_begin_J109 n a1 σ b l3 = some p → hp_w D vwCl (hp_Tl cA) E (hp_A (cd_pic cA ad ca0 σ0) sz) ss H locs (cd_pic cA ad ca σ) → lv_has ls 5 [(0, .ref (ad 1 0)), (1, .ref (ad 7 a1)), (3, .int l3)] → W pp l ee ({ frames := 7, cells := b0.1 - p.2.2.1, slots := b0.2 - p.2.2.2, locals := 180 }) ss mm [.ref (ad 1 0), .ref (ad 7 a1)].toArray bb mt cd H locs (b0.1 - b.1) (b0.2 - b.2) (MQ bb (hp_Qi D vwCl (hp_Tl cA) sz (cd_pic cA ad ca0 σ0) (fun r u => r = p.1 ∧ ∃ ca1, cd_inj ad ca1 ∧ u = cd_pic cA ad ca1 p.2.1)) [.ref (ad 1 0), .ref (ad 7 a1)].toArray ss (b0.1 - p.2.2.1) (b0.2 - p.2.2.2) (hp_A (cd_pic cA ad ca0 σ0) sz)) (F0 mm 109 ls []) := by
    intro ca hj σ b l3 H locs ls hb1 hb2 hf1 hf2 h hw hl
    refine lv_iconst (v := (-1)) cx.1 cx.2.1 dX1_begin_109 (by decide) ?_
    exact J110 _ hj σ b l3 ((-1)) _ _ _ (by omega) (by omega) (by omega) (by omega) h hw (lv_sub hl [0, 1, 2] rfl)
  have J82 : ∀ (ca : Nat → Nat) (hj : cd_inj ad ca) (σ : cd_S) (b : cd_B) (l2 : Nat) (t0 : Int32) (H : Heap) (locs : List Loc) (ls : Array Slot), l2 < 60 → b.1 ≤ b0.1 → b.2 ≤ b0.2 → p.2.2.1 ≤ b.1 → p.2.2.2 ≤ b.2 → f_X1_begin_J82 n a1 σ b l2 t0 = some p → hp_w D vwCl (hp_Tl cA) E (hp_A (cd_pic cA ad ca0 σ0) sz) ss H locs (cd_pic cA ad ca σ) → lv_has ls 5 [(0, .ref (ad 1 0)), (1, .ref (ad 7 a1)), (2, .ref (ad 9 l2))] → W pp l ee ({ frames := 7, cells := b0.1 - p.2.2.1, slots := b0.2 - p.2.2.2, locals := 180 }) ss mm [.ref (ad 1 0), .ref (ad 7 a1)].toArray bb mt cd H locs (b0.1 - b.1) (b0.2 - b.2) (MQ bb (hp_Qi D vwCl (hp_Tl cA) sz (cd_pic cA ad ca0 σ0) (fun r u => r = p.1 ∧ ∃ ca1, cd_inj ad ca1 ∧ u = cd_pic cA ad ca1 p.2.1)) [.ref (ad 1 0), .ref (ad 7 a1)].toArray ss (b0.1 - p.2.2.1) (b0.2 - p.2.2.2) (hp_A (cd_pic cA ad ca0 σ0) sz)) (F0 mm 82 ls [.int t0]) := by
    intro ca hj σ b l2 t0 H locs ls hb_l2 hb1 hb2 hf1 hf2 h hw hl
    refine lv_istore_n (lv' := [(3, .int t0), (0, .ref (ad 1 0)), (1, .ref (ad 7 a1)), (2, .ref (ad 9 l2))]) cx.1 cx.2.1 dX1_begin_82 rfl hl (by decide) rfl (fun ls hl => ?_)
    refine lv_aload_n cx.1 cx.2.1 dX1_begin_83 rfl (lv_at hl 1 rfl) ?_
    refine cd_gI (o := 1) (k := 17) (f := 49) hj cx hw hic1 rfl ⟨by decide, rfl, by decide, rfl⟩ rfl (by decide) (List.mem_cons_of_mem _ cm_122) dX1_begin_84 ?_
    refine lv_if_eq (tgt := 109) cx.1 cx.2.1 dX1_begin_87 (by decide) (fun c87 => ?_) (fun c87 => ?_)
    · have h := md_ip c87 h
      exact J109 _ hj σ b t0 _ _ _ (by omega) (by omega) (by omega) (by omega) h hw (lv_sub hl [1, 2, 0] rfl)
    · have h := md_in c87 h
      refine lv_aload_n cx.1 cx.2.1 dX1_begin_90 rfl (lv_at hl 3 rfl) ?_
      refine cd_gI (o := 9) (k := 13) (f := 301) hj cx hw hic9 rfl ⟨by decide, rfl, by decide, rfl⟩ rfl (show _ < 60 by omega) (List.mem_cons_of_mem _ cm_135) dX1_begin_91 ?_
      refine lv_if_eq (tgt := 109) cx.1 cx.2.1 dX1_begin_94 (by decide) (fun c94 => ?_) (fun c94 => ?_)
      · have h := md_ip c94 h
        exact J109 _ hj σ b t0 _ _ _ (by omega) (by omega) (by omega) (by omega) h hw (lv_sub hl [1, 2, 0] rfl)
      · have h := md_in c94 h
        refine lv_aload_n cx.1 cx.2.1 dX1_begin_97 rfl (lv_at hl 1 rfl) ?_
        refine lv_aload_n cx.1 cx.2.1 dX1_begin_98 rfl (lv_at hl 3 rfl) ?_
        refine lv_aload_n cx.1 cx.2.1 dX1_begin_99 rfl (lv_at hl 2 rfl) ?_
        obtain ⟨p12, e_p12, h⟩ := md_ob h
        refine hp_callVi (As := []) (rest := [.ref (ad 9 l2), .ref (ad 1 0)]) cx hw (kc_X7_contextNow l D cA E _ ad _ hj oq sgq sgv hE n σ a1 (show _ < 8 by omega) p12 e_p12) (cwV 0 cx.2.2.2.2.2.1 (cd_giV cm_136 cm_137 cm_138 cm_94 cm_139) rfl rfl rfl hdc_X7_contextNow ⟨Nat.le_of_ble_eq_true rfl, Nat.le_of_ble_eq_true rfl⟩) (cd_atO hj (by decide) (show _ < 8 by omega)) rfl rfl hl.1 rfl (Nat.le_of_ble_eq_true rfl) dX1_begin_100 ⟨by (try dsimp only); omega, by (try dsimp only); omega⟩ (fun r u H locs hp hw => ?_)
        obtain ⟨rfl, ca, hj, rfl⟩ := hp
        obtain ⟨p13, e_p13, h⟩ := md_ob h
        obtain ⟨hm14, hn14, h⟩ := cd_cks h
        have hM14 : p.2.2.1 ≤ p13.2.2.1 ∧ p.2.2.2 ≤ p13.2.2.2 := ⟨hm14, hn14⟩
        have hle13 := (kc_X1_makeContext l D cA E sz ad _ hj oq sgq sgv hE n p12.2 b l2 (p12.1) (show _ < 60 by omega) p13 e_p13).1
        refine hp_callVi (As := [.ref (ad 9 l2), .int p12.1]) (rest := []) cx hw ((kc_X1_makeContext l D cA E _ ad _ hj oq sgq sgv hE n p12.2 b l2 (p12.1) (show _ < 60 by omega) p13 e_p13).2) (cwV 2 cx.2.2.2.2.2.1 (cd_giV cm_140 cm_141 cm_142 cm_130 cm_143) rfl rfl rfl hdc_X1_makeContext ⟨Nat.le_of_ble_eq_true rfl, Nat.le_of_ble_eq_true rfl⟩) (cd_atO hj (by decide) (by decide)) rfl rfl hl.1 rfl (Nat.le_of_ble_eq_true rfl) dX1_begin_103 ⟨by (try dsimp only); omega, by (try dsimp only); omega⟩ (fun r u H locs hp hw => ?_)
        obtain ⟨rfl, ca, hj, rfl⟩ := hp
        refine W.widen (k := b0.1 - p13.2.2.1) (n := b0.2 - p13.2.2.2) (by omega) (by omega) ?_
        refine lv_goto (tgt := 110) cx.1 cx.2.1 dX1_begin_106 (by decide) ?_
        exact J110 _ hj p13.2.1 (p13.2.2) t0 (p13.1) _ _ _ (by omega) (by omega) (by omega) (by omega) h hw (lv_sub hl [1, 2, 0] rfl)
  have J23 : ∀ (ca : Nat → Nat) (hj : cd_inj ad ca) (σ : cd_S) (b : cd_B) (H : Heap) (locs : List Loc) (ls : Array Slot), b.1 ≤ b0.1 → b.2 ≤ b0.2 → p.2.2.1 ≤ b.1 → p.2.2.2 ≤ b.2 → f_X1_begin_J23 n a1 σ b = some p → hp_w D vwCl (hp_Tl cA) E (hp_A (cd_pic cA ad ca0 σ0) sz) ss H locs (cd_pic cA ad ca σ) → lv_has ls 5 [(0, .ref (ad 1 0))] → W pp l ee ({ frames := 7, cells := b0.1 - p.2.2.1, slots := b0.2 - p.2.2.2, locals := 180 }) ss mm [.ref (ad 1 0), .ref (ad 7 a1)].toArray bb mt cd H locs (b0.1 - b.1) (b0.2 - b.2) (MQ bb (hp_Qi D vwCl (hp_Tl cA) sz (cd_pic cA ad ca0 σ0) (fun r u => r = p.1 ∧ ∃ ca1, cd_inj ad ca1 ∧ u = cd_pic cA ad ca1 p.2.1)) [.ref (ad 1 0), .ref (ad 7 a1)].toArray ss (b0.1 - p.2.2.1) (b0.2 - p.2.2.2) (hp_A (cd_pic cA ad ca0 σ0) sz)) (F0 mm 23 ls []) := by
    intro ca hj σ b H locs ls hb1 hb2 hf1 hf2 h hw hl
    refine lv_aload_n cx.1 cx.2.1 dX1_begin_23 rfl (lv_at hl 0 rfl) ?_
    refine lv_iconst (v := 2) cx.1 cx.2.1 dX1_begin_24 (by decide) ?_
    obtain ⟨σ15, e_σ15, h⟩ := md_ob h
    refine cd_pI (o := 1) (k := 12) (f := 44) hj cx hw hic1 rfl ⟨by decide, rfl, by decide, rfl⟩ tyX1_ok nmX1 rfl (by decide) rfl (List.mem_cons_of_mem _ cm_160) rfl e_σ15 dX1_begin_25 (fun H locs hw => ?_)
    refine lv_iconst (v := 1) cx.1 cx.2.1 dX1_begin_28 (by decide) ?_
    exact hp_iret cx hw (cd_retb hj h) dX1_begin_29 (cd_le1 h) (cd_le2 h)
  refine lv_aload_n cx.1 cx.2.1 dX1_begin_0 rfl (lv_at hl 0 rfl) ?_
  obtain ⟨u16, e_u16, h⟩ := md_ob h
  have hb_u16 : u16 < 8 := (cd_dps e_u16).2
  refine cd_gP (o2 := 7) (u := u16) (o := 1) (k := 18) (f := 50) hj cx hw hic1 rfl ⟨by decide, rfl, by decide, rfl⟩ rfl (by decide) rfl e_u16 (List.mem_cons_of_mem _ cm_72) dX1_begin_1 ?_
  obtain ⟨u17, e_u17, h⟩ := md_ob h
  have hb_u17 : u17 < 60 := (cd_dps e_u17).2
  refine cd_gP (o2 := 9) (u := u17) (o := 7) (k := 14) (f := 238) hj cx hw hic7 rfl ⟨by decide, rfl, by decide, rfl⟩ rfl (show _ < 8 by omega) rfl e_u17 (List.mem_cons_of_mem _ cm_118) dX1_begin_4 ?_
  refine lv_astore_n (lv' := [(2, .ref (ad 9 u17)), (0, .ref (ad 1 0)), (1, .ref (ad 7 a1))]) cx.1 cx.2.1 dX1_begin_7 rfl hl (by decide) rfl (fun ls hl => ?_)
  refine lv_aload_n cx.1 cx.2.1 dX1_begin_8 rfl (lv_at hl 0 rfl) ?_
  refine lv_ifnull cx.1 cx.2.1 dX1_begin_9 ?_
  refine lv_aload_n cx.1 cx.2.1 dX1_begin_12 rfl (lv_at hl 1 rfl) ?_
  refine cd_gI (o := 1) (k := 9) (f := 41) hj cx hw hic1 rfl ⟨by decide, rfl, by decide, rfl⟩ rfl (by decide) (List.mem_cons_of_mem _ cm_119) dX1_begin_13 ?_
  refine lv_aload_n cx.1 cx.2.1 dX1_begin_16 rfl (lv_at hl 1 rfl) ?_
  refine cd_gI (o := 1) (k := 10) (f := 42) hj cx hw hic1 rfl ⟨by decide, rfl, by decide, rfl⟩ rfl (by decide) (List.mem_cons_of_mem _ cm_120) dX1_begin_17 ?_
  refine lv_icmp_lt (tgt := 30) cx.1 cx.2.1 dX1_begin_20 (by decide) (fun c20 => ?_) (fun c20 => ?_)
  · have h := md_ip c20 h
    refine lv_aload_n cx.1 cx.2.1 dX1_begin_30 rfl (lv_at hl 1 rfl) ?_
    obtain ⟨u18, e_u18, h⟩ := md_ob h
    have hb_u18 : u18 < 8 := (cd_dps e_u18).2
    refine cd_gP (o2 := 7) (u := u18) (o := 1) (k := 18) (f := 50) hj cx hw hic1 rfl ⟨by decide, rfl, by decide, rfl⟩ rfl (by decide) rfl e_u18 (List.mem_cons_of_mem _ cm_72) dX1_begin_31 ?_
    refine cd_gI (o := 7) (k := 8) (f := 232) hj cx hw hic7 rfl ⟨by decide, rfl, by decide, rfl⟩ rfl (show _ < 8 by omega) (List.mem_cons_of_mem _ cm_121) dX1_begin_34 ?_
    refine lv_bipush (v := 60) cx.1 cx.2.1 dX1_begin_37 (by decide) ?_
    refine lv_icmp_lt (tgt := 52) cx.1 cx.2.1 dX1_begin_39 (by decide) (fun c39 => ?_) (fun c39 => ?_)
    · have h := md_ip c39 h
      refine lv_aload_n cx.1 cx.2.1 dX1_begin_52 rfl (lv_at hl 1 rfl) ?_
      refine lv_dup cx.1 cx.2.1 dX1_begin_53 rfl ?_
      refine cd_gI (o := 1) (k := 9) (f := 41) hj cx hw hic1 rfl ⟨by decide, rfl, by decide, rfl⟩ rfl (by decide) (List.mem_cons_of_mem _ cm_119) dX1_begin_54 ?_
      refine lv_iconst (v := 1) cx.1 cx.2.1 dX1_begin_57 (by decide) ?_
      refine lv_iadd cx.1 cx.2.1 dX1_begin_58 ?_
      obtain ⟨σ19, e_σ19, h⟩ := md_ob h
      refine cd_pI (o := 1) (k := 9) (f := 41) hj cx hw hic1 rfl ⟨by decide, rfl, by decide, rfl⟩ tyX1_ok nmX1 rfl (by decide) rfl (List.mem_cons_of_mem _ cm_119) rfl e_σ19 dX1_begin_59 (fun H locs hw => ?_)
      refine lv_aload_n cx.1 cx.2.1 dX1_begin_62 rfl (lv_at hl 1 rfl) ?_
      refine cd_gI (o := 1) (k := 17) (f := 49) hj cx hw hic1 rfl ⟨by decide, rfl, by decide, rfl⟩ rfl (by decide) (List.mem_cons_of_mem _ cm_122) dX1_begin_63 ?_
      refine lv_if_eq (tgt := 73) cx.1 cx.2.1 dX1_begin_66 (by decide) (fun c66 => ?_) (fun c66 => ?_)
      · have h := md_ip c66 h
        refine lv_aload_n cx.1 cx.2.1 dX1_begin_73 rfl (lv_at hl 1 rfl) ?_
        refine lv_aload_n cx.1 cx.2.1 dX1_begin_74 rfl (lv_at hl 0 rfl) ?_
        refine lv_aload_n cx.1 cx.2.1 dX1_begin_75 rfl (lv_at hl 2 rfl) ?_
        obtain ⟨p20, e_p20, h⟩ := md_ob h
        refine hp_callVi (As := []) (rest := [.ref (ad 9 u17), .ref (ad 1 0)]) cx hw (kc_X7_nodeNow l D cA E _ ad _ hj oq sgq sgv hE n σ19 a1 (show _ < 8 by omega) p20 e_p20) (cwV 0 cx.2.2.2.2.2.1 (cd_giV cm_123 cm_124 cm_125 cm_94 cm_126) rfl rfl rfl hdc_X7_nodeNow ⟨Nat.le_of_ble_eq_true rfl, Nat.le_of_ble_eq_true rfl⟩) (cd_atO hj (by decide) (show _ < 8 by omega)) rfl rfl hl.1 rfl (Nat.le_of_ble_eq_true rfl) dX1_begin_76 ⟨by (try dsimp only); omega, by (try dsimp only); omega⟩ (fun r u H locs hp hw => ?_)
        obtain ⟨rfl, ca, hj, rfl⟩ := hp
        obtain ⟨p21, e_p21, h⟩ := md_ob h
        obtain ⟨hm22, hn22, h⟩ := cd_cks h
        have hM22 : p.2.2.1 ≤ p21.2.2.1 ∧ p.2.2.2 ≤ p21.2.2.2 := ⟨hm22, hn22⟩
        have hle21 := (kc_X1_addNode l D cA E sz ad _ hj oq sgq sgv hE n p20.2 b0 u17 (p20.1) (show _ < 60 by omega) p21 e_p21).1
        refine hp_callVi (As := [.ref (ad 9 u17), .int p20.1]) (rest := []) cx hw ((kc_X1_addNode l D cA E _ ad _ hj oq sgq sgv hE n p20.2 b0 u17 (p20.1) (show _ < 60 by omega) p21 e_p21).2) (cwV 2 cx.2.2.2.2.2.1 (cd_giV cm_127 cm_128 cm_129 cm_130 cm_131) rfl rfl rfl hdc_X1_addNode ⟨Nat.le_of_ble_eq_true rfl, Nat.le_of_ble_eq_true rfl⟩) (cd_atO hj (by decide) (by decide)) rfl rfl hl.1 rfl (Nat.le_of_ble_eq_true rfl) dX1_begin_79 ⟨by (try dsimp only); omega, by (try dsimp only); omega⟩ (fun r u H locs hp hw => ?_)
        obtain ⟨rfl, ca, hj, rfl⟩ := hp
        refine W.widen (k := b0.1 - p21.2.2.1) (n := b0.2 - p21.2.2.2) (by omega) (by omega) ?_
        exact J82 _ hj p21.2.1 (p21.2.2) u17 (p21.1) _ _ _ (by omega) (by omega) (by omega) (by omega) (by omega) h hw (lv_sub hl [1, 2, 0] rfl)
      · have h := md_in c66 h
        refine lv_iconst (v := (-1)) cx.1 cx.2.1 dX1_begin_69 (by decide) ?_
        refine lv_goto (tgt := 82) cx.1 cx.2.1 dX1_begin_70 (by decide) ?_
        exact J82 _ hj σ19 b0 u17 ((-1)) _ _ _ (by omega) (by omega) (by omega) (by omega) (by omega) h hw (lv_sub hl [1, 2, 0] rfl)
    · have h := md_in c39 h
      refine lv_aload_n cx.1 cx.2.1 dX1_begin_42 rfl (lv_at hl 1 rfl) ?_
      obtain ⟨u23, e_u23, h⟩ := md_ob h
      have hb_u23 : u23 < 8 := (cd_dps e_u23).2
      refine cd_gP (o2 := 7) (u := u23) (o := 1) (k := 18) (f := 50) hj cx hw hic1 rfl ⟨by decide, rfl, by decide, rfl⟩ rfl (by decide) rfl e_u23 (List.mem_cons_of_mem _ cm_72) dX1_begin_43 ?_
      refine lv_bipush (v := 6) cx.1 cx.2.1 dX1_begin_46 (by decide) ?_
      obtain ⟨p24, e_p24, h⟩ := md_ob h
      refine hp_callSi (As := [.ref (ad 7 u23), .int 6]) (rest := []) cx hw (kc_X1_fail l D cA E _ ad _ hj oq sgq sgv hE n σ0 u23 (6 : Int32) (show _ < 8 by omega) p24 e_p24) (cwS 2 cx.2.2.2.2.2.1 (cd_giS cm_132 cm_133 cm_130 cm_134) rfl rfl rfl hdc_X1_fail ⟨Nat.le_of_ble_eq_true rfl, Nat.le_of_ble_eq_true rfl⟩) rfl hl.1 rfl (Nat.le_of_ble_eq_true rfl) dX1_begin_48 ⟨by (try dsimp only); omega, by (try dsimp only); omega⟩ (fun r u H locs hp hw => ?_)
      obtain ⟨rfl, ca, hj, rfl⟩ := hp
      exact hp_iret cx hw (cd_retb hj h) dX1_begin_51 (cd_le1 h) (cd_le2 h)
  · have h := md_in c20 h
    exact J23 _ hj σ0 b0 _ _ _ (by omega) (by omega) (by omega) (by omega) h hw (lv_sub hl [1] rfl)
set_option maxHeartbeats 4000000 in
set_option maxRecDepth 100000 in
theorem kc_X1_addThing (l : Launch) (D : va_G) (cA : Nat → ClassId) (E : hp_N) (sz : Nat) (ad : Nat → Nat → Nat) (ca0 : Nat → Nat) (hj : cd_inj ad ca0) (oq sgq sgv : Nat) (hE : cd_E E oq sgq sgv) (n : Nat) (σ0 : cd_S) (b0 : cd_B) (a1 : Int32) (p : (Int32 × cd_S × cd_B)) (h : f_X1_addThing n σ0 b0 a1 = some p) : (p.2.2.1 ≤ b0.1 ∧ p.2.2.2 ≤ b0.2) ∧ Met l yX1_addThing (Cond.code yX1_addThing cX1_addThing 2 (some .int) :: v_CLS) ({ frames := 4, cells := b0.1 - p.2.2.1, slots := b0.2 - p.2.2.2, locals := 111 }) (hp_Pc D vwCl (hp_Tl cA) E sz (cd_pic cA ad ca0 σ0) [.ref (ad 1 0), .int a1]) (hp_Qi D vwCl (hp_Tl cA) sz (cd_pic cA ad ca0 σ0) (fun r u => r = p.1 ∧ ∃ ca1, cd_inj ad ca1 ∧ u = cd_pic cA ad ca1 p.2.1)) (b0.1 - p.2.2.1) (b0.2 - p.2.2.2) (hp_A (cd_pic cA ad ca0 σ0) sz) := by
  obtain ⟨hm0, hn0, h⟩ := cd_cks h
  have hM0 : p.2.2.1 ≤ b0.1 ∧ p.2.2.2 ≤ b0.2 := ⟨hm0, hn0⟩
  refine ⟨hM0, ?_⟩
  refine hp_ofW (cc := cX1_addThing) (maxL := 2) (ret := (some .int)) (by decide) rfl (Nat.le_of_ble_eq_true rfl) ?_
  intro pp ee ss mm bb mt cd ls cx hsz hw hl
  have hl : lv_has ls 2 [(0, .ref (ad 1 0)), (1, .int a1)] := hl
  refine W.widen (k := b0.1 - b0.1) (n := b0.2 - b0.2) (Nat.zero_le _) (Nat.zero_le _) ?_
  refine lv_aload_n cx.1 cx.2.1 dX1_addThing_0 rfl (lv_at hl 0 rfl) ?_
  refine cd_gO (o2 := 6) (e2 := 6) (o := 1) (k := 5) (f := 37) hj cx hw hic1 rfl ⟨by decide, rfl, by decide, rfl⟩ rfl (by decide) ⟨rfl, rfl⟩ (List.mem_cons_of_mem _ cm_161) dX1_addThing_1 ?_
  refine lv_iload_n cx.1 cx.2.1 dX1_addThing_4 rfl (lv_at hl 1 rfl) ?_
  refine lv_i2l (v := (a1.toInt64)) cx.1 cx.2.1 dX1_addThing_5 rfl ?_
  obtain ⟨p1, e_p1, h⟩ := md_ob h
  obtain ⟨hm2, hn2, h⟩ := cd_cks h
  have hM2 : p.2.2.1 ≤ p1.2.2.1 ∧ p.2.2.2 ≤ p1.2.2.2 := ⟨hm2, hn2⟩
  have hle1 := (kc_X6_add l D cA E sz ad _ hj oq sgq sgv hE n σ0 b0 6 ((a1.toInt64)) (by decide) p1 e_p1).1
  refine hp_callVv (As := [.long (a1.toInt64)]) (rest := []) cx hw ((kc_X6_add l D cA E _ ad _ hj oq sgq sgv hE n σ0 b0 6 ((a1.toInt64)) (by decide) p1 e_p1).2) (cwV 1 cx.2.2.2.2.2.1 (cd_giV cm_71 cm_40 cm_41 cm_5 cm_42) rfl rfl rfl hdc_X6_add ⟨Nat.le_of_ble_eq_true rfl, Nat.le_of_ble_eq_true rfl⟩) (cd_atO hj (by decide) (by decide)) rfl rfl hl.1 rfl (Nat.le_of_ble_eq_true rfl) dX1_addThing_6 ⟨by (try dsimp only); omega, by (try dsimp only); omega⟩ (fun u H locs hp hw => ?_)
  obtain ⟨ca, hj, rfl⟩ := hp
  refine W.widen (k := b0.1 - p1.2.2.1) (n := b0.2 - p1.2.2.2) (by omega) (by omega) ?_
  refine lv_aload_n cx.1 cx.2.1 dX1_addThing_9 rfl (lv_at hl 0 rfl) ?_
  refine cd_gO (o2 := 6) (e2 := 6) (o := 1) (k := 5) (f := 37) hj cx hw hic1 rfl ⟨by decide, rfl, by decide, rfl⟩ rfl (by decide) ⟨rfl, rfl⟩ (List.mem_cons_of_mem _ cm_161) dX1_addThing_10 ?_
  refine lv_aload_n cx.1 cx.2.1 dX1_addThing_13 rfl (lv_at hl 0 rfl) ?_
  refine cd_gO (o2 := 6) (e2 := 7) (o := 1) (k := 6) (f := 38) hj cx hw hic1 rfl ⟨by decide, rfl, by decide, rfl⟩ rfl (by decide) ⟨rfl, rfl⟩ (List.mem_cons_of_mem _ cm_162) dX1_addThing_14 ?_
  refine cd_gI (o := 6) (k := 1) (f := 193) hj cx hw hic6 rfl ⟨by decide, rfl, by decide, rfl⟩ rfl (by decide) (List.mem_cons_of_mem _ cm_74) dX1_addThing_17 ?_
  refine lv_i2l (v := ((cI p1.2.1 193 7).toInt64)) cx.1 cx.2.1 dX1_addThing_20 rfl ?_
  obtain ⟨p3, e_p3, h⟩ := md_ob h
  obtain ⟨hm4, hn4, h⟩ := cd_cks h
  have hM4 : p.2.2.1 ≤ p3.2.2.1 ∧ p.2.2.2 ≤ p3.2.2.2 := ⟨hm4, hn4⟩
  have hle3 := (kc_X6_add l D cA E sz ad _ hj oq sgq sgv hE n p1.2.1 (p1.2.2) 6 (((cI p1.2.1 193 7).toInt64)) (by decide) p3 e_p3).1
  refine hp_callVv (As := [.long ((cI p1.2.1 193 7).toInt64)]) (rest := []) cx hw ((kc_X6_add l D cA E _ ad _ hj oq sgq sgv hE n p1.2.1 (p1.2.2) 6 (((cI p1.2.1 193 7).toInt64)) (by decide) p3 e_p3).2) (cwV 1 cx.2.2.2.2.2.1 (cd_giV cm_71 cm_40 cm_41 cm_5 cm_42) rfl rfl rfl hdc_X6_add ⟨Nat.le_of_ble_eq_true rfl, Nat.le_of_ble_eq_true rfl⟩) (cd_atO hj (by decide) (by decide)) rfl rfl hl.1 rfl (Nat.le_of_ble_eq_true rfl) dX1_addThing_21 ⟨by (try dsimp only); omega, by (try dsimp only); omega⟩ (fun u H locs hp hw => ?_)
  obtain ⟨ca, hj, rfl⟩ := hp
  refine W.widen (k := b0.1 - p3.2.2.1) (n := b0.2 - p3.2.2.2) (by omega) (by omega) ?_
  refine lv_aload_n cx.1 cx.2.1 dX1_addThing_24 rfl (lv_at hl 0 rfl) ?_
  refine cd_gO (o2 := 6) (e2 := 6) (o := 1) (k := 5) (f := 37) hj cx hw hic1 rfl ⟨by decide, rfl, by decide, rfl⟩ rfl (by decide) ⟨rfl, rfl⟩ (List.mem_cons_of_mem _ cm_161) dX1_addThing_25 ?_
  refine cd_gI (o := 6) (k := 1) (f := 193) hj cx hw hic6 rfl ⟨by decide, rfl, by decide, rfl⟩ rfl (by decide) (List.mem_cons_of_mem _ cm_74) dX1_addThing_28 ?_
  refine lv_iconst (v := 2) cx.1 cx.2.1 dX1_addThing_31 (by decide) ?_
  refine lv_idiv cx.1 cx.2.1 dX1_addThing_32 (by decide) ?_
  refine lv_iconst (v := 1) cx.1 cx.2.1 dX1_addThing_33 (by decide) ?_
  refine lv_isub cx.1 cx.2.1 dX1_addThing_34 ?_
  exact hp_iret cx hw (cd_retb hj h) dX1_addThing_35 (cd_le1 h) (cd_le2 h)
set_option maxHeartbeats 4000000 in
set_option maxRecDepth 100000 in
theorem kc_X1_thingCount (l : Launch) (D : va_G) (cA : Nat → ClassId) (E : hp_N) (sz : Nat) (ad : Nat → Nat → Nat) (ca0 : Nat → Nat) (hj : cd_inj ad ca0) (oq sgq sgv : Nat) (hE : cd_E E oq sgq sgv) (n : Nat) (σ0 : cd_S) (p : (Int32 × cd_S)) (h : f_X1_thingCount n σ0 = some p) : Met l yX1_thingCount (Cond.code yX1_thingCount cX1_thingCount 1 (some .int) :: v_CLS) ({ frames := 0, cells := 0, slots := 0, locals := 0 }) (hp_Pc D vwCl (hp_Tl cA) E sz (cd_pic cA ad ca0 σ0) [.ref (ad 1 0)]) (hp_Qi D vwCl (hp_Tl cA) sz (cd_pic cA ad ca0 σ0) (fun r u => r = p.1 ∧ ∃ ca1, cd_inj ad ca1 ∧ u = cd_pic cA ad ca1 p.2)) 0 0 (hp_A (cd_pic cA ad ca0 σ0) sz) := by
  refine hp_ofW (cc := cX1_thingCount) (maxL := 1) (ret := (some .int)) (by decide) rfl (Nat.le_of_ble_eq_true rfl) ?_
  intro pp ee ss mm bb mt cd ls cx hsz hw hl
  have hl : lv_has ls 1 [(0, .ref (ad 1 0))] := hl
  refine lv_aload_n cx.1 cx.2.1 dX1_thingCount_0 rfl (lv_at hl 0 rfl) ?_
  refine cd_gO (o2 := 6) (e2 := 6) (o := 1) (k := 5) (f := 37) hj cx hw hic1 rfl ⟨by decide, rfl, by decide, rfl⟩ rfl (by decide) ⟨rfl, rfl⟩ (List.mem_cons_of_mem _ cm_161) dX1_thingCount_1 ?_
  refine cd_gI (o := 6) (k := 1) (f := 193) hj cx hw hic6 rfl ⟨by decide, rfl, by decide, rfl⟩ rfl (by decide) (List.mem_cons_of_mem _ cm_74) dX1_thingCount_4 ?_
  refine lv_iconst (v := 2) cx.1 cx.2.1 dX1_thingCount_7 (by decide) ?_
  refine lv_idiv cx.1 cx.2.1 dX1_thingCount_8 (by decide) ?_
  exact hp_iret cx hw (cd_ret hj h) dX1_thingCount_9
set_option maxHeartbeats 4000000 in
set_option maxRecDepth 100000 in
theorem kc_X2_isModule (l : Launch) (D : va_G) (cA : Nat → ClassId) (E : hp_N) (sz : Nat) (ad : Nat → Nat → Nat) (ca0 : Nat → Nat) (hj : cd_inj ad ca0) (oq sgq sgv : Nat) (hE : cd_E E oq sgq sgv) (n : Nat) (σ0 : cd_S) (a1 : Int32) (p : (Int32 × cd_S)) (h : f_X2_isModule n σ0 a1 = some p) : Met l yX2_isModule (Cond.code yX2_isModule cX2_isModule 2 (some .boolean) :: v_CLS) ({ frames := 0, cells := 0, slots := 0, locals := 0 }) (hp_Pc D vwCl (hp_Tl cA) E sz (cd_pic cA ad ca0 σ0) [.ref (ad 2 0), .int a1]) (hp_Qi D vwCl (hp_Tl cA) sz (cd_pic cA ad ca0 σ0) (fun r u => r = p.1 ∧ ∃ ca1, cd_inj ad ca1 ∧ u = cd_pic cA ad ca1 p.2)) 0 0 (hp_A (cd_pic cA ad ca0 σ0) sz) := by
  refine hp_ofW (cc := cX2_isModule) (maxL := 2) (ret := (some .boolean)) (by decide) rfl (Nat.le_of_ble_eq_true rfl) ?_
  intro pp ee ss mm bb mt cd ls cx hsz hw hl
  have hl : lv_has ls 2 [(0, .ref (ad 2 0)), (1, .int a1)] := hl
  refine lv_iload_n cx.1 cx.2.1 dX2_isModule_0 rfl (lv_at hl 1 rfl) ?_
  refine lv_if_lt (tgt := 16) cx.1 cx.2.1 dX2_isModule_1 (by decide) (fun c1 => ?_) (fun c1 => ?_)
  · have h := md_ip c1 h
    refine lv_iconst (v := 0) cx.1 cx.2.1 dX2_isModule_16 (by decide) ?_
    exact hp_zret cx hw (cd_ret hj h) (by decide) dX2_isModule_17
  · have h := md_in c1 h
    refine lv_iload_n cx.1 cx.2.1 dX2_isModule_4 rfl (lv_at hl 1 rfl) ?_
    refine lv_aload_n cx.1 cx.2.1 dX2_isModule_5 rfl (lv_at hl 0 rfl) ?_
    refine cd_gI (o := 2) (k := 10) (f := 74) hj cx hw hic2 rfl ⟨by decide, rfl, by decide, rfl⟩ rfl (by decide) (List.mem_cons_of_mem _ cm_163) dX2_isModule_6 ?_
    refine lv_icmp_ge (tgt := 16) cx.1 cx.2.1 dX2_isModule_9 (by decide) (fun c9 => ?_) (fun c9 => ?_)
    · have h := md_ip c9 h
      refine lv_iconst (v := 0) cx.1 cx.2.1 dX2_isModule_16 (by decide) ?_
      exact hp_zret cx hw (cd_ret hj h) (by decide) dX2_isModule_17
    · have h := md_in c9 h
      refine lv_iconst (v := 1) cx.1 cx.2.1 dX2_isModule_12 (by decide) ?_
      refine lv_goto (tgt := 17) cx.1 cx.2.1 dX2_isModule_13 (by decide) ?_
      exact hp_zret cx hw (cd_ret hj h) (by decide) dX2_isModule_17
set_option maxHeartbeats 4000000 in
set_option maxRecDepth 100000 in
theorem kc_X2_fieldTotal (l : Launch) (D : va_G) (cA : Nat → ClassId) (E : hp_N) (sz : Nat) (ad : Nat → Nat → Nat) (ca0 : Nat → Nat) (hj : cd_inj ad ca0) (oq sgq sgv : Nat) (hE : cd_E E oq sgq sgv) (n : Nat) (σ0 : cd_S) (a1 : Int32) (p : (Int32 × cd_S)) (h : f_X2_fieldTotal n σ0 a1 = some p) : Met l yX2_fieldTotal (Cond.code yX2_fieldTotal cX2_fieldTotal 2 (some .int) :: v_CLS) ({ frames := 1, cells := 0, slots := 0, locals := 21 }) (hp_Pc D vwCl (hp_Tl cA) E sz (cd_pic cA ad ca0 σ0) [.ref (ad 2 0), .int a1]) (hp_Qi D vwCl (hp_Tl cA) sz (cd_pic cA ad ca0 σ0) (fun r u => r = p.1 ∧ ∃ ca1, cd_inj ad ca1 ∧ u = cd_pic cA ad ca1 p.2)) 0 0 (hp_A (cd_pic cA ad ca0 σ0) sz) := by
  refine hp_ofW (cc := cX2_fieldTotal) (maxL := 2) (ret := (some .int)) (by decide) rfl (Nat.le_of_ble_eq_true rfl) ?_
  intro pp ee ss mm bb mt cd ls cx hsz hw hl
  have hl : lv_has ls 2 [(0, .ref (ad 2 0)), (1, .int a1)] := hl
  refine lv_aload_n cx.1 cx.2.1 dX2_fieldTotal_0 rfl (lv_at hl 0 rfl) ?_
  refine lv_iload_n cx.1 cx.2.1 dX2_fieldTotal_1 rfl (lv_at hl 1 rfl) ?_
  obtain ⟨p1, e_p1, h⟩ := md_ob h
  refine hp_callVi (As := [.int a1]) (rest := []) cx hw (kc_X2_isModule l D cA E _ ad _ hj oq sgq sgv hE n σ0 a1 p1 e_p1) (cwV 1 cx.2.2.2.2.2.1 (cd_giV cm_164 cm_165 cm_166 cm_167 cm_168) rfl rfl rfl hdc_X2_isModule ⟨Nat.le_of_ble_eq_true rfl, Nat.le_of_ble_eq_true rfl⟩) (cd_atO hj (by decide) (by decide)) rfl rfl hl.1 rfl (Nat.le_of_ble_eq_true rfl) dX2_fieldTotal_2 ⟨Nat.le_refl _, Nat.le_refl _⟩ (fun r u H locs hp hw => ?_)
  obtain ⟨rfl, ca, hj, rfl⟩ := hp
  refine lv_if_eq (tgt := 24) cx.1 cx.2.1 dX2_fieldTotal_5 (by decide) (fun c5 => ?_) (fun c5 => ?_)
  · have h := md_ip c5 h
    refine lv_iconst (v := 0) cx.1 cx.2.1 dX2_fieldTotal_24 (by decide) ?_
    exact hp_iret cx hw (cd_ret hj h) dX2_fieldTotal_25
  · have h := md_in c5 h
    refine lv_aload_n cx.1 cx.2.1 dX2_fieldTotal_8 rfl (lv_at hl 0 rfl) ?_
    refine cd_gA (o := 2) (k := 7) (f := 71) hj cx hw hic2 rfl ⟨by decide, rfl, by decide, rfl⟩ rfl (by decide) (List.mem_cons_of_mem _ cm_169) dX2_fieldTotal_9 ?_
    refine lv_iload_n cx.1 cx.2.1 dX2_fieldTotal_12 rfl (lv_at hl 1 rfl) ?_
    obtain ⟨v2, e_v2, h⟩ := md_ob h
    refine cd_lI (f := 71) hj cx hw (by decide) (by decide) rfl e_v2 dX2_fieldTotal_13 ?_
    refine lv_aload_n cx.1 cx.2.1 dX2_fieldTotal_14 rfl (lv_at hl 0 rfl) ?_
    refine cd_gA (o := 2) (k := 6) (f := 70) hj cx hw hic2 rfl ⟨by decide, rfl, by decide, rfl⟩ rfl (by decide) (List.mem_cons_of_mem _ cm_170) dX2_fieldTotal_15 ?_
    refine lv_iload_n cx.1 cx.2.1 dX2_fieldTotal_18 rfl (lv_at hl 1 rfl) ?_
    obtain ⟨v3, e_v3, h⟩ := md_ob h
    refine cd_lI (f := 70) hj cx hw (by decide) (by decide) rfl e_v3 dX2_fieldTotal_19 ?_
    refine lv_iadd cx.1 cx.2.1 dX2_fieldTotal_20 ?_
    refine lv_goto (tgt := 25) cx.1 cx.2.1 dX2_fieldTotal_21 (by decide) ?_
    exact hp_iret cx hw (cd_ret hj h) dX2_fieldTotal_25
set_option maxHeartbeats 4000000 in
set_option maxRecDepth 100000 in
theorem kc_X1_makeObject (l : Launch) (D : va_G) (cA : Nat → ClassId) (E : hp_N) (sz : Nat) (ad : Nat → Nat → Nat) (ca0 : Nat → Nat) (hj : cd_inj ad ca0) (oq sgq sgv : Nat) (hE : cd_E E oq sgq sgv) (n : Nat) (σ0 : cd_S) (b0 : cd_B) (a1 : Nat) (a2 : Int32) (hb_a1 : a1 < 8) (p : (Int32 × cd_S × cd_B)) (h : f_X1_makeObject n σ0 b0 a1 a2 = some p) : (p.2.2.1 ≤ b0.1 ∧ p.2.2.2 ≤ b0.2) ∧ Met l yX1_makeObject (Cond.code yX1_makeObject cX1_makeObject 5 (some .int) :: v_CLS) ({ frames := 5, cells := b0.1 - p.2.2.1, slots := b0.2 - p.2.2.2, locals := 133 }) (hp_Pc D vwCl (hp_Tl cA) E sz (cd_pic cA ad ca0 σ0) [.ref (ad 1 0), .ref (ad 7 a1), .int a2]) (hp_Qi D vwCl (hp_Tl cA) sz (cd_pic cA ad ca0 σ0) (fun r u => r = p.1 ∧ ∃ ca1, cd_inj ad ca1 ∧ u = cd_pic cA ad ca1 p.2.1)) (b0.1 - p.2.2.1) (b0.2 - p.2.2.2) (hp_A (cd_pic cA ad ca0 σ0) sz) := by
  obtain ⟨hm0, hn0, h⟩ := cd_cks h
  have hM0 : p.2.2.1 ≤ b0.1 ∧ p.2.2.2 ≤ b0.2 := ⟨hm0, hn0⟩
  refine ⟨hM0, ?_⟩
  refine hp_ofW (cc := cX1_makeObject) (maxL := 5) (ret := (some .int)) (by decide) rfl (Nat.le_of_ble_eq_true rfl) ?_
  intro pp ee ss mm bb mt cd ls cx hsz hw hl
  have hl : lv_has ls 5 [(0, .ref (ad 1 0)), (1, .ref (ad 7 a1)), (2, .int a2)] := hl
  refine W.widen (k := b0.1 - b0.1) (n := b0.2 - b0.2) (Nat.zero_le _) (Nat.zero_le _) ?_
  refine lv_aload_n cx.1 cx.2.1 dX1_makeObject_0 rfl (lv_at hl 0 rfl) ?_
  obtain ⟨p1, e_p1, h⟩ := md_ob h
  refine hp_callVi (As := []) (rest := []) cx hw (kc_X1_thingCount l D cA E _ ad _ hj oq sgq sgv hE n σ0  p1 e_p1) (cwV 0 cx.2.2.2.2.2.1 (cd_giV cm_171 cm_172 cm_173 cm_130 cm_174) rfl rfl rfl hdc_X1_thingCount ⟨Nat.le_of_ble_eq_true rfl, Nat.le_of_ble_eq_true rfl⟩) (cd_atO hj (by decide) (by decide)) rfl rfl hl.1 rfl (Nat.le_of_ble_eq_true rfl) dX1_makeObject_1 ⟨by (try dsimp only); omega, by (try dsimp only); omega⟩ (fun r u H locs hp hw => ?_)
  obtain ⟨rfl, ca, hj, rfl⟩ := hp
  refine lv_sipush (v := 2000) cx.1 cx.2.1 dX1_makeObject_4 (by decide) ?_
  refine lv_icmp_lt (tgt := 17) cx.1 cx.2.1 dX1_makeObject_7 (by decide) (fun c7 => ?_) (fun c7 => ?_)
  · have h := md_ip c7 h
    refine lv_aload_n cx.1 cx.2.1 dX1_makeObject_17 rfl (lv_at hl 0 rfl) ?_
    refine lv_iload_n cx.1 cx.2.1 dX1_makeObject_18 rfl (lv_at hl 2 rfl) ?_
    obtain ⟨p2, e_p2, h⟩ := md_ob h
    obtain ⟨hm3, hn3, h⟩ := cd_cks h
    have hM3 : p.2.2.1 ≤ p2.2.2.1 ∧ p.2.2.2 ≤ p2.2.2.2 := ⟨hm3, hn3⟩
    have hle2 := (kc_X1_addThing l D cA E sz ad _ hj oq sgq sgv hE n p1.2 b0 a2 p2 e_p2).1
    refine hp_callVi (As := [.int a2]) (rest := []) cx hw ((kc_X1_addThing l D cA E _ ad _ hj oq sgq sgv hE n p1.2 b0 a2 p2 e_p2).2) (cwV 1 cx.2.2.2.2.2.1 (cd_giV cm_175 cm_176 cm_177 cm_130 cm_178) rfl rfl rfl hdc_X1_addThing ⟨Nat.le_of_ble_eq_true rfl, Nat.le_of_ble_eq_true rfl⟩) (cd_atO hj (by decide) (by decide)) rfl rfl hl.1 rfl (Nat.le_of_ble_eq_true rfl) dX1_makeObject_19 ⟨by (try dsimp only); omega, by (try dsimp only); omega⟩ (fun r u H locs hp hw => ?_)
    obtain ⟨rfl, ca, hj, rfl⟩ := hp
    refine W.widen (k := b0.1 - p2.2.2.1) (n := b0.2 - p2.2.2.2) (by omega) (by omega) ?_
    refine lv_istore_n (lv' := [(3, .int p2.1), (0, .ref (ad 1 0)), (1, .ref (ad 7 a1)), (2, .int a2)]) cx.1 cx.2.1 dX1_makeObject_22 rfl hl (by decide) rfl (fun ls hl => ?_)
    refine lv_iconst (v := 0) cx.1 cx.2.1 dX1_makeObject_23 (by decide) ?_
    refine lv_istore (lv' := [(4, .int 0), (3, .int p2.1), (0, .ref (ad 1 0)), (1, .ref (ad 7 a1)), (2, .int a2)]) cx.1 cx.2.1 dX1_makeObject_24 hl (by decide) rfl (fun ls hl => ?_)
    have L26 : ∀ (j : Nat) (ca : Nat → Nat) (hj : cd_inj ad ca) (σ : cd_S) (b : cd_B) (l2 : Int32) (l3 : Int32) (l4 : Int32) (q : (cd_S × cd_B × Int32)) (H : Heap) (locs : List Loc) (ls : Array Slot), b.1 ≤ b0.1 → b.2 ≤ b0.2 → p.2.2.1 ≤ b.1 → p.2.2.2 ≤ b.2 → p.2.2.1 ≤ q.2.1.1 → p.2.2.2 ≤ q.2.1.2 → f_X1_makeObject_L26 n a1 l2 l3 j σ b l4 = some q → hp_w D vwCl (hp_Tl cA) E (hp_A (cd_pic cA ad ca0 σ0) sz) ss H locs (cd_pic cA ad ca σ) → lv_has ls 5 [(0, .ref (ad 1 0)), (1, .ref (ad 7 a1)), (2, .int l2), (3, .int l3), (4, .int l4)] → (∀ (ca : Nat → Nat) (hj : cd_inj ad ca) (H : Heap) (locs : List Loc) (ls : Array Slot), q.2.1.1 ≤ b0.1 → q.2.1.2 ≤ b0.2 → hp_w D vwCl (hp_Tl cA) E (hp_A (cd_pic cA ad ca0 σ0) sz) ss H locs (cd_pic cA ad ca q.1) → lv_has ls 5 [(1, .ref (ad 7 a1)), (3, .int l3)] → W pp l ee ({ frames := 5, cells := b0.1 - p.2.2.1, slots := b0.2 - p.2.2.2, locals := 133 }) ss mm [.ref (ad 1 0), .ref (ad 7 a1), .int a2].toArray bb mt cd H locs (b0.1 - q.2.1.1) (b0.2 - q.2.1.2) (MQ bb (hp_Qi D vwCl (hp_Tl cA) sz (cd_pic cA ad ca0 σ0) (fun r u => r = p.1 ∧ ∃ ca1, cd_inj ad ca1 ∧ u = cd_pic cA ad ca1 p.2.1)) [.ref (ad 1 0), .ref (ad 7 a1), .int a2].toArray ss (b0.1 - p.2.2.1) (b0.2 - p.2.2.2) (hp_A (cd_pic cA ad ca0 σ0) sz)) (F0 mm 55 ls [])) → W pp l ee ({ frames := 5, cells := b0.1 - p.2.2.1, slots := b0.2 - p.2.2.2, locals := 133 }) ss mm [.ref (ad 1 0), .ref (ad 7 a1), .int a2].toArray bb mt cd H locs (b0.1 - b.1) (b0.2 - b.2) (MQ bb (hp_Qi D vwCl (hp_Tl cA) sz (cd_pic cA ad ca0 σ0) (fun r u => r = p.1 ∧ ∃ ca1, cd_inj ad ca1 ∧ u = cd_pic cA ad ca1 p.2.1)) [.ref (ad 1 0), .ref (ad 7 a1), .int a2].toArray ss (b0.1 - p.2.2.1) (b0.2 - p.2.2.2) (hp_A (cd_pic cA ad ca0 σ0) sz)) (F0 mm 26 ls []) := by
      intro j
      induction j with
      | zero => intro ca hj σ b l2 l3 l4 q H locs ls hb1 hb2 hf1 hf2 hq1 hq2 h; exact nomatch h
      | succ j ih =>
        intro ca hj σ b l2 l3 l4 q H locs ls hb1 hb2 hf1 hf2 hq1 hq2 h hw hl K
        unfold f_X1_makeObject_L26 at h
        refine lv_iload cx.1 cx.2.1 dX1_makeObject_26 (lv_at hl 4 rfl) ?_
        refine lv_aload_n cx.1 cx.2.1 dX1_makeObject_28 rfl (lv_at hl 0 rfl) ?_
        refine cd_gO (o2 := 2) (e2 := 0) (o := 1) (k := 0) (f := 32) hj cx hw hic1 rfl ⟨by decide, rfl, by decide, rfl⟩ rfl (by decide) ⟨rfl, rfl⟩ (List.mem_cons_of_mem _ cm_179) dX1_makeObject_29 ?_
        refine lv_iload_n cx.1 cx.2.1 dX1_makeObject_32 rfl (lv_at hl 2 rfl) ?_
        obtain ⟨p4, e_p4, h⟩ := md_ob h
        refine hp_callVi (As := [.int l2]) (rest := [.int l4]) cx hw (kc_X2_fieldTotal l D cA E _ ad _ hj oq sgq sgv hE n σ l2 p4 e_p4) (cwV 1 cx.2.2.2.2.2.1 (cd_giV cm_180 cm_181 cm_182 cm_167 cm_183) rfl rfl rfl hdc_X2_fieldTotal ⟨Nat.le_of_ble_eq_true rfl, Nat.le_of_ble_eq_true rfl⟩) (cd_atO hj (by decide) (by decide)) rfl rfl hl.1 rfl (Nat.le_of_ble_eq_true rfl) dX1_makeObject_33 ⟨by (try dsimp only); omega, by (try dsimp only); omega⟩ (fun r u H locs hp hw => ?_)
        obtain ⟨rfl, ca, hj, rfl⟩ := hp
        refine lv_icmp_ge (tgt := 55) cx.1 cx.2.1 dX1_makeObject_36 (by decide) (fun c36 => ?_) (fun c36 => ?_)
        · have h := md_ip c36 h
          obtain rfl := Option.some.inj h
          exact K _ hj _ _ _ (by (try dsimp only); omega) (by (try dsimp only); omega) hw (lv_sub hl [1, 3] rfl)
        · have h := md_in c36 h
          refine lv_aload_n cx.1 cx.2.1 dX1_makeObject_39 rfl (lv_at hl 0 rfl) ?_
          refine cd_gO (o2 := 6) (e2 := 7) (o := 1) (k := 6) (f := 38) hj cx hw hic1 rfl ⟨by decide, rfl, by decide, rfl⟩ rfl (by decide) ⟨rfl, rfl⟩ (List.mem_cons_of_mem _ cm_162) dX1_makeObject_40 ?_
          refine lv_ldc2 cx.1 cx.2.1 cx.2.2.2.2.1 (cx.2.2.2.2.2.1 _ (List.mem_cons_of_mem _ cm_184)) dX1_makeObject_43 ?_
          obtain ⟨p5, e_p5, h⟩ := md_ob h
          obtain ⟨hm6, hn6, h⟩ := cd_cks h
          have hM6 : p.2.2.1 ≤ p5.2.2.1 ∧ p.2.2.2 ≤ p5.2.2.2 := ⟨Nat.le_trans hq1 hm6, Nat.le_trans hq2 hn6⟩
          have hle5 := (kc_X6_add l D cA E sz ad _ hj oq sgq sgv hE n p4.2 b 7 (4294967296 : Int64) (by decide) p5 e_p5).1
          refine hp_callVv (As := [.long 4294967296]) (rest := []) cx hw ((kc_X6_add l D cA E _ ad _ hj oq sgq sgv hE n p4.2 b 7 (4294967296 : Int64) (by decide) p5 e_p5).2) (cwV 1 cx.2.2.2.2.2.1 (cd_giV cm_71 cm_40 cm_41 cm_5 cm_42) rfl rfl rfl hdc_X6_add ⟨Nat.le_of_ble_eq_true rfl, Nat.le_of_ble_eq_true rfl⟩) (cd_atO hj (by decide) (by decide)) rfl rfl hl.1 rfl (Nat.le_of_ble_eq_true rfl) dX1_makeObject_46 ⟨by (try dsimp only); omega, by (try dsimp only); omega⟩ (fun u H locs hp hw => ?_)
          obtain ⟨ca, hj, rfl⟩ := hp
          refine W.widen (k := b0.1 - p5.2.2.1) (n := b0.2 - p5.2.2.2) (by omega) (by omega) ?_
          refine lv_iinc (v := (l4 + 1)) (lv' := [(4, .int (l4 + 1)), (0, .ref (ad 1 0)), (1, .ref (ad 7 a1)), (2, .int l2), (3, .int l3)]) cx.1 cx.2.1 dX1_makeObject_49 hl (k := 4) rfl rfl (by decide) rfl (fun ls hl => ?_)
          refine lv_goto (tgt := 26) cx.1 cx.2.1 dX1_makeObject_52 (by decide) ?_
          exact ih _ hj p5.2.1 (p5.2.2) l2 l3 ((l4 + 1)) q _ _ _ (by omega) (by omega) (by omega) (by omega) hq1 hq2 h hw (lv_sub hl [1, 2, 3, 4, 0] rfl) K
    obtain ⟨q7, e_q7, h⟩ := md_ob h
    obtain ⟨hm8, hn8, h⟩ := cd_cks h
    have hM8 : p.2.2.1 ≤ q7.2.1.1 ∧ p.2.2.2 ≤ q7.2.1.2 := ⟨hm8, hn8⟩
    refine L26 n _ hj p2.2.1 (p2.2.2) a2 (p2.1) 0 q7 _ _ _ (by omega) (by omega) (by omega) (by omega) hM8.1 hM8.2 e_q7 hw (lv_sub hl [2, 3, 4, 1, 0] rfl) (fun ca hj H locs ls hb1 hb2 hw hl => ?_)
    refine lv_aload_n cx.1 cx.2.1 dX1_makeObject_55 rfl (lv_at hl 0 rfl) ?_
    refine lv_iconst (v := 2) cx.1 cx.2.1 dX1_makeObject_56 (by decide) ?_
    refine lv_iload_n cx.1 cx.2.1 dX1_makeObject_57 rfl (lv_at hl 1 rfl) ?_
    obtain ⟨p9, e_p9, h⟩ := md_ob h
    refine hp_callSl (As := [.int 2, .int p2.1]) (rest := [.ref (ad 7 a1)]) cx hw (kc_X1_valueOf l D cA E _ ad _ hj oq sgq sgv hE n q7.1 (2 : Int32) (p2.1) p9 e_p9) (cwS 2 cx.2.2.2.2.2.1 (cd_giS cm_154 cm_155 cm_130 cm_156) rfl rfl rfl hdc_X1_valueOf ⟨Nat.le_of_ble_eq_true rfl, Nat.le_of_ble_eq_true rfl⟩) rfl hl.1 rfl (Nat.le_of_ble_eq_true rfl) dX1_makeObject_58 ⟨by (try dsimp only); omega, by (try dsimp only); omega⟩ (fun r u H locs hp hw => ?_)
    obtain ⟨rfl, ca, hj, rfl⟩ := hp
    obtain ⟨p10, e_p10, h⟩ := md_ob h
    obtain ⟨hm11, hn11, h⟩ := cd_cks h
    have hM11 : p.2.2.1 ≤ p10.2.2.1 ∧ p.2.2.2 ≤ p10.2.2.2 := ⟨hm11, hn11⟩
    have hle10 := (kc_X1_push l D cA E sz ad _ hj oq sgq sgv hE n p9.2 (q7.2.1) a1 (p9.1) (show _ < 8 by omega) p10 e_p10).1
    refine hp_callSi (As := [.ref (ad 7 a1), .long p9.1]) (rest := []) cx hw ((kc_X1_push l D cA E _ ad _ hj oq sgq sgv hE n p9.2 (q7.2.1) a1 (p9.1) (show _ < 8 by omega) p10 e_p10).2) (cwS 2 cx.2.2.2.2.2.1 (cd_giS cm_157 cm_158 cm_130 cm_159) rfl rfl rfl hdc_X1_push ⟨Nat.le_of_ble_eq_true rfl, Nat.le_of_ble_eq_true rfl⟩) rfl hl.1 rfl (Nat.le_of_ble_eq_true rfl) dX1_makeObject_61 ⟨by (try dsimp only); omega, by (try dsimp only); omega⟩ (fun r u H locs hp hw => ?_)
    obtain ⟨rfl, ca, hj, rfl⟩ := hp
    refine W.widen (k := b0.1 - p10.2.2.1) (n := b0.2 - p10.2.2.2) (by omega) (by omega) ?_
    exact hp_iret cx hw (cd_retb hj h) dX1_makeObject_64 (cd_le1 h) (cd_le2 h)
  · have h := md_in c7 h
    refine lv_aload_n cx.1 cx.2.1 dX1_makeObject_10 rfl (lv_at hl 1 rfl) ?_
    refine lv_bipush (v := 9) cx.1 cx.2.1 dX1_makeObject_11 (by decide) ?_
    obtain ⟨p12, e_p12, h⟩ := md_ob h
    refine hp_callSi (As := [.ref (ad 7 a1), .int 9]) (rest := []) cx hw (kc_X1_fail l D cA E _ ad _ hj oq sgq sgv hE n p1.2 a1 (9 : Int32) (show _ < 8 by omega) p12 e_p12) (cwS 2 cx.2.2.2.2.2.1 (cd_giS cm_132 cm_133 cm_130 cm_134) rfl rfl rfl hdc_X1_fail ⟨Nat.le_of_ble_eq_true rfl, Nat.le_of_ble_eq_true rfl⟩) rfl hl.1 rfl (Nat.le_of_ble_eq_true rfl) dX1_makeObject_13 ⟨by (try dsimp only); omega, by (try dsimp only); omega⟩ (fun r u H locs hp hw => ?_)
    obtain ⟨rfl, ca, hj, rfl⟩ := hp
    exact hp_iret cx hw (cd_retb hj h) dX1_makeObject_16 (cd_le1 h) (cd_le2 h)
set_option maxHeartbeats 4000000 in
set_option maxRecDepth 100000 in
theorem kc_X7_call (l : Launch) (D : va_G) (cA : Nat → ClassId) (E : hp_N) (sz : Nat) (ad : Nat → Nat → Nat) (ca0 : Nat → Nat) (hj : cd_inj ad ca0) (oq sgq sgv : Nat) (hE : cd_E E oq sgq sgv) (n : Nat) (σ0 : cd_S) (a0 : Nat) (a1 : Nat) (a2 : Int32) (a3 : Int32) (a4 : Int32) (hb_a0 : a0 < 8) (hb_a1 : a1 < 60) (p : (Int32 × cd_S)) (h : f_X7_call n σ0 a0 a1 a2 a3 a4 = some p) : Met l yX7_call (Cond.code yX7_call cX7_call 5 none :: v_CLS) ({ frames := 0, cells := 0, slots := 0, locals := 0 }) (hp_Pc D vwCl (hp_Tl cA) E sz (cd_pic cA ad ca0 σ0) [.ref (ad 7 a0), .ref (ad 9 a1), .int a2, .int a3, .int a4]) (hp_Qv D vwCl (hp_Tl cA) sz (cd_pic cA ad ca0 σ0) (fun u => ∃ ca1, cd_inj ad ca1 ∧ u = cd_pic cA ad ca1 p.2)) 0 0 (hp_A (cd_pic cA ad ca0 σ0) sz) := by
  refine hp_ofW (cc := cX7_call) (maxL := 5) (ret := none) (by decide) rfl (Nat.le_of_ble_eq_true rfl) ?_
  intro pp ee ss mm bb mt cd ls cx hsz hw hl
  have hl : lv_has ls 5 [(0, .ref (ad 7 a0)), (1, .ref (ad 9 a1)), (2, .int a2), (3, .int a3), (4, .int a4)] := hl
  refine lv_aload_n cx.1 cx.2.1 dX7_call_0 rfl (lv_at hl 0 rfl) ?_
  refine lv_aload_n cx.1 cx.2.1 dX7_call_1 rfl (lv_at hl 1 rfl) ?_
  obtain ⟨σ1, e_σ1, h⟩ := md_ob h
  refine cd_pP (u := a1) (o2 := 9) (o := 7) (k := 14) (f := 238) hj cx hw hic7 rfl ⟨by decide, rfl, by decide, rfl⟩ tyX7_ok nmX7 rfl (show _ < 8 by omega) rfl (List.mem_cons_of_mem _ cm_99) rfl rfl e_σ1 dX7_call_2 (fun H locs hw => ?_)
  refine lv_aload_n cx.1 cx.2.1 dX7_call_5 rfl (lv_at hl 0 rfl) ?_
  refine lv_iload_n cx.1 cx.2.1 dX7_call_6 rfl (lv_at hl 2 rfl) ?_
  obtain ⟨σ2, e_σ2, h⟩ := md_ob h
  refine cd_pI (o := 7) (k := 15) (f := 239) hj cx hw hic7 rfl ⟨by decide, rfl, by decide, rfl⟩ tyX7_ok nmX7 rfl (show _ < 8 by omega) rfl (List.mem_cons_of_mem _ cm_104) rfl e_σ2 dX7_call_7 (fun H locs hw => ?_)
  refine lv_aload_n cx.1 cx.2.1 dX7_call_10 rfl (lv_at hl 0 rfl) ?_
  refine lv_iload_n cx.1 cx.2.1 dX7_call_11 rfl (lv_at hl 3 rfl) ?_
  obtain ⟨σ3, e_σ3, h⟩ := md_ob h
  refine cd_pI (o := 7) (k := 16) (f := 240) hj cx hw hic7 rfl ⟨by decide, rfl, by decide, rfl⟩ tyX7_ok nmX7 rfl (show _ < 8 by omega) rfl (List.mem_cons_of_mem _ cm_106) rfl e_σ3 dX7_call_12 (fun H locs hw => ?_)
  refine lv_aload_n cx.1 cx.2.1 dX7_call_15 rfl (lv_at hl 0 rfl) ?_
  refine lv_iload cx.1 cx.2.1 dX7_call_16 (lv_at hl 4 rfl) ?_
  obtain ⟨σ4, e_σ4, h⟩ := md_ob h
  refine cd_pI (o := 7) (k := 17) (f := 241) hj cx hw hic7 rfl ⟨by decide, rfl, by decide, rfl⟩ tyX7_ok nmX7 rfl (show _ < 8 by omega) rfl (List.mem_cons_of_mem _ cm_185) rfl e_σ4 dX7_call_18 (fun H locs hw => ?_)
  exact hp_vret cx hw ((cd_ret hj h).2) dX7_call_21
set_option maxHeartbeats 4000000 in
set_option maxRecDepth 100000 in
theorem kc_X7_clear (l : Launch) (D : va_G) (cA : Nat → ClassId) (E : hp_N) (sz : Nat) (ad : Nat → Nat → Nat) (ca0 : Nat → Nat) (hj : cd_inj ad ca0) (oq sgq sgv : Nat) (hE : cd_E E oq sgq sgv) (n : Nat) (σ0 : cd_S) (a0 : Nat) (a1 : Int32) (hb_a0 : a0 < 8) (p : (Int32 × cd_S)) (h : f_X7_clear n σ0 a0 a1 = some p) : Met l yX7_clear (Cond.code yX7_clear cX7_clear 2 none :: v_CLS) ({ frames := 1, cells := 0, slots := 0, locals := 21 }) (hp_Pc D vwCl (hp_Tl cA) E sz (cd_pic cA ad ca0 σ0) [.ref (ad 7 a0), .int a1]) (hp_Qv D vwCl (hp_Tl cA) sz (cd_pic cA ad ca0 σ0) (fun u => ∃ ca1, cd_inj ad ca1 ∧ u = cd_pic cA ad ca1 p.2)) 0 0 (hp_A (cd_pic cA ad ca0 σ0) sz) := by
  refine hp_ofW (cc := cX7_clear) (maxL := 2) (ret := none) (by decide) rfl (Nat.le_of_ble_eq_true rfl) ?_
  intro pp ee ss mm bb mt cd ls cx hsz hw hl
  have hl : lv_has ls 2 [(0, .ref (ad 7 a0)), (1, .int a1)] := hl
  refine lv_aload_n cx.1 cx.2.1 dX7_clear_0 rfl (lv_at hl 0 rfl) ?_
  refine lv_iload_n cx.1 cx.2.1 dX7_clear_1 rfl (lv_at hl 1 rfl) ?_
  obtain ⟨σ1, e_σ1, h⟩ := md_ob h
  refine cd_pI (o := 7) (k := 7) (f := 231) hj cx hw hic7 rfl ⟨by decide, rfl, by decide, rfl⟩ tyX7_ok nmX7 rfl (show _ < 8 by omega) rfl (List.mem_cons_of_mem _ cm_186) rfl e_σ1 dX7_clear_2 (fun H locs hw => ?_)
  refine lv_aload_n cx.1 cx.2.1 dX7_clear_5 rfl (lv_at hl 0 rfl) ?_
  refine lv_iconst (v := 0) cx.1 cx.2.1 dX7_clear_6 (by decide) ?_
  obtain ⟨σ2, e_σ2, h⟩ := md_ob h
  refine cd_pI (o := 7) (k := 8) (f := 232) hj cx hw hic7 rfl ⟨by decide, rfl, by decide, rfl⟩ tyX7_ok nmX7 rfl (show _ < 8 by omega) rfl (List.mem_cons_of_mem _ cm_90) rfl e_σ2 dX7_clear_7 (fun H locs hw => ?_)
  refine lv_aload_n cx.1 cx.2.1 dX7_clear_10 rfl (lv_at hl 0 rfl) ?_
  refine lv_iconst (v := 0) cx.1 cx.2.1 dX7_clear_11 (by decide) ?_
  obtain ⟨σ3, e_σ3, h⟩ := md_ob h
  refine cd_pI (o := 7) (k := 9) (f := 233) hj cx hw hic7 rfl ⟨by decide, rfl, by decide, rfl⟩ tyX7_ok nmX7 rfl (show _ < 8 by omega) rfl (List.mem_cons_of_mem _ cm_108) rfl e_σ3 dX7_clear_12 (fun H locs hw => ?_)
  refine lv_aload_n cx.1 cx.2.1 dX7_clear_15 rfl (lv_at hl 0 rfl) ?_
  refine lv_iconst (v := 0) cx.1 cx.2.1 dX7_clear_16 (by decide) ?_
  obtain ⟨σ4, e_σ4, h⟩ := md_ob h
  refine cd_pI (o := 7) (k := 10) (f := 234) hj cx hw hic7 rfl ⟨by decide, rfl, by decide, rfl⟩ tyX7_ok nmX7 rfl (show _ < 8 by omega) rfl (List.mem_cons_of_mem _ cm_187) rfl e_σ4 dX7_clear_17 (fun H locs hw => ?_)
  refine lv_aload_n cx.1 cx.2.1 dX7_clear_20 rfl (lv_at hl 0 rfl) ?_
  refine lv_iconst (v := (-1)) cx.1 cx.2.1 dX7_clear_21 (by decide) ?_
  obtain ⟨σ5, e_σ5, h⟩ := md_ob h
  refine cd_pI (o := 7) (k := 11) (f := 235) hj cx hw hic7 rfl ⟨by decide, rfl, by decide, rfl⟩ tyX7_ok nmX7 rfl (show _ < 8 by omega) rfl (List.mem_cons_of_mem _ cm_188) rfl e_σ5 dX7_clear_22 (fun H locs hw => ?_)
  refine lv_aload_n cx.1 cx.2.1 dX7_clear_25 rfl (lv_at hl 0 rfl) ?_
  refine lv_ldc2 cx.1 cx.2.1 cx.2.2.2.2.1 (cx.2.2.2.2.2.1 _ (List.mem_cons_of_mem _ cm_116)) dX7_clear_26 ?_
  obtain ⟨σ6, e_σ6, h⟩ := md_ob h
  refine cd_pJ (o := 7) (k := 12) (f := 236) hj cx hw hic7 rfl ⟨by decide, rfl, by decide, rfl⟩ tyX7_ok nmX7 rfl (show _ < 8 by omega) rfl (List.mem_cons_of_mem _ cm_189) rfl e_σ6 dX7_clear_29 (fun H locs hw => ?_)
  refine lv_aload_n cx.1 cx.2.1 dX7_clear_32 rfl (lv_at hl 0 rfl) ?_
  refine cd_gO (o2 := 6) (e2 := (9 + 1 * a0)) (o := 7) (k := 6) (f := 230) hj cx hw hic7 rfl ⟨by decide, rfl, by decide, rfl⟩ rfl (show _ < 8 by omega) ⟨rfl, rfl⟩ (List.mem_cons_of_mem _ cm_109) dX7_clear_33 ?_
  refine lv_iconst (v := 0) cx.1 cx.2.1 dX7_clear_36 (by decide) ?_
  obtain ⟨p7, e_p7, h⟩ := md_ob h
  refine hp_callVv (As := [.int 0]) (rest := []) cx hw (kc_X6_cut l D cA E _ ad _ hj oq sgq sgv hE n σ6 ((9 + 1 * a0)) (0 : Int32) (show _ < 197 by omega) p7 e_p7) (cwV 1 cx.2.2.2.2.2.1 (cd_giV cm_190 cm_3 cm_4 cm_5 cm_6) rfl rfl rfl hdc_X6_cut ⟨Nat.le_of_ble_eq_true rfl, Nat.le_of_ble_eq_true rfl⟩) (cd_atO hj (by decide) (show _ < 197 by omega)) rfl rfl hl.1 rfl (Nat.le_of_ble_eq_true rfl) dX7_clear_37 ⟨Nat.le_refl _, Nat.le_refl _⟩ (fun u H locs hp hw => ?_)
  obtain ⟨ca, hj, rfl⟩ := hp
  exact hp_vret cx hw ((cd_ret hj h).2) dX7_clear_40
set_option maxHeartbeats 4000000 in
set_option maxRecDepth 100000 in
theorem kc_X1_prepare (l : Launch) (D : va_G) (cA : Nat → ClassId) (E : hp_N) (sz : Nat) (ad : Nat → Nat → Nat) (ca0 : Nat → Nat) (hj : cd_inj ad ca0) (oq sgq sgv : Nat) (hE : cd_E E oq sgq sgv) (n : Nat) (σ0 : cd_S) (b0 : cd_B) (a1 : Nat) (a2 : Int32) (a3 : Int32) (a4 : Int32) (hb_a1 : a1 < 60) (p : (Int32 × cd_S × cd_B)) (h : f_X1_prepare n σ0 b0 a1 a2 a3 a4 = some p) : (p.2.2.1 ≤ b0.1 ∧ p.2.2.2 ≤ b0.2) ∧ Met l yX1_prepare (Cond.code yX1_prepare cX1_prepare 5 none :: v_CLS) ({ frames := 8, cells := b0.1 - p.2.2.1, slots := b0.2 - p.2.2.2, locals := 204 }) (hp_Pc D vwCl (hp_Tl cA) E sz (cd_pic cA ad ca0 σ0) [.ref (ad 1 0), .ref (ad 9 a1), .int a2, .int a3, .int a4]) (hp_Qv D vwCl (hp_Tl cA) sz (cd_pic cA ad ca0 σ0) (fun u => ∃ ca1, cd_inj ad ca1 ∧ u = cd_pic cA ad ca1 p.2.1)) (b0.1 - p.2.2.1) (b0.2 - p.2.2.2) (hp_A (cd_pic cA ad ca0 σ0) sz) := by
  obtain ⟨hm0, hn0, h⟩ := cd_cks h
  have hM0 : p.2.2.1 ≤ b0.1 ∧ p.2.2.2 ≤ b0.2 := ⟨hm0, hn0⟩
  refine ⟨hM0, ?_⟩
  refine hp_ofW (cc := cX1_prepare) (maxL := 5) (ret := none) (by decide) rfl (Nat.le_of_ble_eq_true rfl) ?_
  intro pp ee ss mm bb mt cd ls cx hsz hw hl
  have hl : lv_has ls 5 [(0, .ref (ad 1 0)), (1, .ref (ad 9 a1)), (2, .int a2), (3, .int a3), (4, .int a4)] := hl
  refine W.widen (k := b0.1 - b0.1) (n := b0.2 - b0.2) (Nat.zero_le _) (Nat.zero_le _) ?_
  refine lv_aload_n cx.1 cx.2.1 dX1_prepare_0 rfl (lv_at hl 0 rfl) ?_
  refine cd_gO (o2 := 0) (e2 := 0) (o := 1) (k := 2) (f := 34) hj cx hw hic1 rfl ⟨by decide, rfl, by decide, rfl⟩ rfl (by decide) ⟨rfl, rfl⟩ (List.mem_cons_of_mem _ cm_76) dX1_prepare_1 ?_
  obtain ⟨p1, e_p1, h⟩ := md_ob h
  refine hp_callVv (As := []) (rest := []) cx hw (kc_X0_clear l D cA E _ ad _ hj oq sgq sgv hE n σ0  p1 e_p1) (cwV 0 cx.2.2.2.2.2.1 (cd_giV cm_191 cm_192 cm_193 cm_23 cm_194) rfl rfl rfl hdc_X0_clear ⟨Nat.le_of_ble_eq_true rfl, Nat.le_of_ble_eq_true rfl⟩) (cd_atO hj (by decide) (by decide)) rfl rfl hl.1 rfl (Nat.le_of_ble_eq_true rfl) dX1_prepare_4 ⟨by (try dsimp only); omega, by (try dsimp only); omega⟩ (fun u H locs hp hw => ?_)
  obtain ⟨ca, hj, rfl⟩ := hp
  refine lv_aload_n cx.1 cx.2.1 dX1_prepare_7 rfl (lv_at hl 0 rfl) ?_
  refine cd_gO (o2 := 6) (e2 := 5) (o := 1) (k := 4) (f := 36) hj cx hw hic1 rfl ⟨by decide, rfl, by decide, rfl⟩ rfl (by decide) ⟨rfl, rfl⟩ (List.mem_cons_of_mem _ cm_69) dX1_prepare_8 ?_
  refine lv_iconst (v := 0) cx.1 cx.2.1 dX1_prepare_11 (by decide) ?_
  obtain ⟨p2, e_p2, h⟩ := md_ob h
  refine hp_callVv (As := [.int 0]) (rest := []) cx hw (kc_X6_cut l D cA E _ ad _ hj oq sgq sgv hE n p1.2 5 (0 : Int32) (by decide) p2 e_p2) (cwV 1 cx.2.2.2.2.2.1 (cd_giV cm_195 cm_3 cm_4 cm_5 cm_6) rfl rfl rfl hdc_X6_cut ⟨Nat.le_of_ble_eq_true rfl, Nat.le_of_ble_eq_true rfl⟩) (cd_atO hj (by decide) (by decide)) rfl rfl hl.1 rfl (Nat.le_of_ble_eq_true rfl) dX1_prepare_12 ⟨by (try dsimp only); omega, by (try dsimp only); omega⟩ (fun u H locs hp hw => ?_)
  obtain ⟨ca, hj, rfl⟩ := hp
  refine lv_aload_n cx.1 cx.2.1 dX1_prepare_15 rfl (lv_at hl 0 rfl) ?_
  refine cd_gO (o2 := 6) (e2 := 6) (o := 1) (k := 5) (f := 37) hj cx hw hic1 rfl ⟨by decide, rfl, by decide, rfl⟩ rfl (by decide) ⟨rfl, rfl⟩ (List.mem_cons_of_mem _ cm_161) dX1_prepare_16 ?_
  refine lv_iconst (v := 0) cx.1 cx.2.1 dX1_prepare_19 (by decide) ?_
  obtain ⟨p3, e_p3, h⟩ := md_ob h
  refine hp_callVv (As := [.int 0]) (rest := []) cx hw (kc_X6_cut l D cA E _ ad _ hj oq sgq sgv hE n p2.2 6 (0 : Int32) (by decide) p3 e_p3) (cwV 1 cx.2.2.2.2.2.1 (cd_giV cm_195 cm_3 cm_4 cm_5 cm_6) rfl rfl rfl hdc_X6_cut ⟨Nat.le_of_ble_eq_true rfl, Nat.le_of_ble_eq_true rfl⟩) (cd_atO hj (by decide) (by decide)) rfl rfl hl.1 rfl (Nat.le_of_ble_eq_true rfl) dX1_prepare_20 ⟨by (try dsimp only); omega, by (try dsimp only); omega⟩ (fun u H locs hp hw => ?_)
  obtain ⟨ca, hj, rfl⟩ := hp
  refine lv_aload_n cx.1 cx.2.1 dX1_prepare_23 rfl (lv_at hl 0 rfl) ?_
  refine cd_gO (o2 := 6) (e2 := 7) (o := 1) (k := 6) (f := 38) hj cx hw hic1 rfl ⟨by decide, rfl, by decide, rfl⟩ rfl (by decide) ⟨rfl, rfl⟩ (List.mem_cons_of_mem _ cm_162) dX1_prepare_24 ?_
  refine lv_iconst (v := 0) cx.1 cx.2.1 dX1_prepare_27 (by decide) ?_
  obtain ⟨p4, e_p4, h⟩ := md_ob h
  refine hp_callVv (As := [.int 0]) (rest := []) cx hw (kc_X6_cut l D cA E _ ad _ hj oq sgq sgv hE n p3.2 7 (0 : Int32) (by decide) p4 e_p4) (cwV 1 cx.2.2.2.2.2.1 (cd_giV cm_195 cm_3 cm_4 cm_5 cm_6) rfl rfl rfl hdc_X6_cut ⟨Nat.le_of_ble_eq_true rfl, Nat.le_of_ble_eq_true rfl⟩) (cd_atO hj (by decide) (by decide)) rfl rfl hl.1 rfl (Nat.le_of_ble_eq_true rfl) dX1_prepare_28 ⟨by (try dsimp only); omega, by (try dsimp only); omega⟩ (fun u H locs hp hw => ?_)
  obtain ⟨ca, hj, rfl⟩ := hp
  refine lv_aload_n cx.1 cx.2.1 dX1_prepare_31 rfl (lv_at hl 0 rfl) ?_
  refine cd_gO (o2 := 6) (e2 := 8) (o := 1) (k := 7) (f := 39) hj cx hw hic1 rfl ⟨by decide, rfl, by decide, rfl⟩ rfl (by decide) ⟨rfl, rfl⟩ (List.mem_cons_of_mem _ cm_196) dX1_prepare_32 ?_
  refine lv_iconst (v := 0) cx.1 cx.2.1 dX1_prepare_35 (by decide) ?_
  obtain ⟨p5, e_p5, h⟩ := md_ob h
  refine hp_callVv (As := [.int 0]) (rest := []) cx hw (kc_X6_cut l D cA E _ ad _ hj oq sgq sgv hE n p4.2 8 (0 : Int32) (by decide) p5 e_p5) (cwV 1 cx.2.2.2.2.2.1 (cd_giV cm_195 cm_3 cm_4 cm_5 cm_6) rfl rfl rfl hdc_X6_cut ⟨Nat.le_of_ble_eq_true rfl, Nat.le_of_ble_eq_true rfl⟩) (cd_atO hj (by decide) (by decide)) rfl rfl hl.1 rfl (Nat.le_of_ble_eq_true rfl) dX1_prepare_36 ⟨by (try dsimp only); omega, by (try dsimp only); omega⟩ (fun u H locs hp hw => ?_)
  obtain ⟨ca, hj, rfl⟩ := hp
  refine lv_aload_n cx.1 cx.2.1 dX1_prepare_39 rfl (lv_at hl 0 rfl) ?_
  refine lv_iconst (v := 1) cx.1 cx.2.1 dX1_prepare_40 (by decide) ?_
  obtain ⟨σ6, e_σ6, h⟩ := md_ob h
  refine cd_pI (o := 1) (k := 8) (f := 40) hj cx hw hic1 rfl ⟨by decide, rfl, by decide, rfl⟩ tyX1_ok nmX1 rfl (by decide) rfl (List.mem_cons_of_mem _ cm_153) rfl e_σ6 dX1_prepare_41 (fun H locs hw => ?_)
  refine lv_aload_n cx.1 cx.2.1 dX1_prepare_44 rfl (lv_at hl 0 rfl) ?_
  refine lv_iconst (v := 0) cx.1 cx.2.1 dX1_prepare_45 (by decide) ?_
  obtain ⟨σ7, e_σ7, h⟩ := md_ob h
  refine cd_pI (o := 1) (k := 9) (f := 41) hj cx hw hic1 rfl ⟨by decide, rfl, by decide, rfl⟩ tyX1_ok nmX1 rfl (by decide) rfl (List.mem_cons_of_mem _ cm_119) rfl e_σ7 dX1_prepare_46 (fun H locs hw => ?_)
  refine lv_aload_n cx.1 cx.2.1 dX1_prepare_49 rfl (lv_at hl 0 rfl) ?_
  refine lv_iload_n cx.1 cx.2.1 dX1_prepare_50 rfl (lv_at hl 3 rfl) ?_
  obtain ⟨σ8, e_σ8, h⟩ := md_ob h
  refine cd_pI (o := 1) (k := 10) (f := 42) hj cx hw hic1 rfl ⟨by decide, rfl, by decide, rfl⟩ tyX1_ok nmX1 rfl (by decide) rfl (List.mem_cons_of_mem _ cm_120) rfl e_σ8 dX1_prepare_51 (fun H locs hw => ?_)
  refine lv_aload_n cx.1 cx.2.1 dX1_prepare_54 rfl (lv_at hl 0 rfl) ?_
  refine lv_iconst (v := 0) cx.1 cx.2.1 dX1_prepare_55 (by decide) ?_
  obtain ⟨σ9, e_σ9, h⟩ := md_ob h
  refine cd_pI (o := 1) (k := 11) (f := 43) hj cx hw hic1 rfl ⟨by decide, rfl, by decide, rfl⟩ tyX1_ok nmX1 rfl (by decide) rfl (List.mem_cons_of_mem _ cm_197) rfl e_σ9 dX1_prepare_56 (fun H locs hw => ?_)
  refine lv_aload_n cx.1 cx.2.1 dX1_prepare_59 rfl (lv_at hl 0 rfl) ?_
  refine lv_iconst (v := 0) cx.1 cx.2.1 dX1_prepare_60 (by decide) ?_
  obtain ⟨σ10, e_σ10, h⟩ := md_ob h
  refine cd_pI (o := 1) (k := 12) (f := 44) hj cx hw hic1 rfl ⟨by decide, rfl, by decide, rfl⟩ tyX1_ok nmX1 rfl (by decide) rfl (List.mem_cons_of_mem _ cm_160) rfl e_σ10 dX1_prepare_61 (fun H locs hw => ?_)
  refine lv_aload_n cx.1 cx.2.1 dX1_prepare_64 rfl (lv_at hl 0 rfl) ?_
  refine lv_iconst (v := 0) cx.1 cx.2.1 dX1_prepare_65 (by decide) ?_
  obtain ⟨σ11, e_σ11, h⟩ := md_ob h
  refine cd_pI (o := 1) (k := 13) (f := 45) hj cx hw hic1 rfl ⟨by decide, rfl, by decide, rfl⟩ tyX1_ok nmX1 rfl (by decide) rfl (List.mem_cons_of_mem _ cm_148) rfl e_σ11 dX1_prepare_66 (fun H locs hw => ?_)
  refine lv_aload_n cx.1 cx.2.1 dX1_prepare_69 rfl (lv_at hl 0 rfl) ?_
  refine lv_iconst (v := 0) cx.1 cx.2.1 dX1_prepare_70 (by decide) ?_
  obtain ⟨σ12, e_σ12, h⟩ := md_ob h
  refine cd_pI (o := 1) (k := 14) (f := 46) hj cx hw hic1 rfl ⟨by decide, rfl, by decide, rfl⟩ tyX1_ok nmX1 rfl (by decide) rfl (List.mem_cons_of_mem _ cm_198) rfl e_σ12 dX1_prepare_71 (fun H locs hw => ?_)
  refine lv_aload_n cx.1 cx.2.1 dX1_prepare_74 rfl (lv_at hl 0 rfl) ?_
  refine lv_iload_n cx.1 cx.2.1 dX1_prepare_75 rfl (lv_at hl 2 rfl) ?_
  obtain ⟨σ13, e_σ13, h⟩ := md_ob h
  refine cd_pI (o := 1) (k := 15) (f := 47) hj cx hw hic1 rfl ⟨by decide, rfl, by decide, rfl⟩ tyX1_ok nmX1 rfl (by decide) rfl (List.mem_cons_of_mem _ cm_199) rfl e_σ13 dX1_prepare_76 (fun H locs hw => ?_)
  refine lv_aload_n cx.1 cx.2.1 dX1_prepare_79 rfl (lv_at hl 0 rfl) ?_
  refine lv_iload_n cx.1 cx.2.1 dX1_prepare_80 rfl (lv_at hl 2 rfl) ?_
  obtain ⟨σ14, e_σ14, h⟩ := md_ob h
  refine cd_pI (o := 1) (k := 16) (f := 48) hj cx hw hic1 rfl ⟨by decide, rfl, by decide, rfl⟩ tyX1_ok nmX1 rfl (by decide) rfl (List.mem_cons_of_mem _ cm_200) rfl e_σ14 dX1_prepare_81 (fun H locs hw => ?_)
  refine lv_aload_n cx.1 cx.2.1 dX1_prepare_84 rfl (lv_at hl 0 rfl) ?_
  refine lv_iload cx.1 cx.2.1 dX1_prepare_85 (lv_at hl 4 rfl) ?_
  obtain ⟨z15, e_z15, h⟩ := md_ob h
  obtain ⟨σ16, e_σ16, h⟩ := md_ob h
  refine cd_pZ (o := 1) (k := 17) (f := 49) hj cx hw hic1 rfl ⟨by decide, rfl, by decide, rfl⟩ tyX1_ok nmX1 rfl (by decide) rfl (List.mem_cons_of_mem _ cm_122) rfl (md_zbs e_z15).2 e_σ16 dX1_prepare_87 (fun H locs hw => ?_)
  refine lv_aload_n cx.1 cx.2.1 dX1_prepare_90 rfl (lv_at hl 0 rfl) ?_
  refine lv_iconst (v := 1) cx.1 cx.2.1 dX1_prepare_91 (by decide) ?_
  obtain ⟨σ17, e_σ17, h⟩ := md_ob h
  refine cd_pZ (o := 1) (k := 19) (f := 51) hj cx hw hic1 rfl ⟨by decide, rfl, by decide, rfl⟩ tyX1_ok nmX1 rfl (by decide) rfl (List.mem_cons_of_mem _ cm_68) rfl (by decide) e_σ17 dX1_prepare_92 (fun H locs hw => ?_)
  refine lv_aload_n cx.1 cx.2.1 dX1_prepare_95 rfl (lv_at hl 0 rfl) ?_
  refine lv_aload_n cx.1 cx.2.1 dX1_prepare_96 rfl (lv_at hl 0 rfl) ?_
  refine cd_gA (o := 1) (k := 3) (f := 35) hj cx hw hic1 rfl ⟨by decide, rfl, by decide, rfl⟩ rfl (by decide) (List.mem_cons_of_mem _ cm_201) dX1_prepare_97 ?_
  refine lv_iconst (v := 0) cx.1 cx.2.1 dX1_prepare_100 (by decide) ?_
  obtain ⟨u18, e_u18, h⟩ := md_ob h
  have hb_u18 : u18 < 8 := (cd_ldRs e_u18).2.2
  refine cd_lR (f := 35) (o2 := 7) hj cx hw (by decide) (by decide) rfl (by decide) rfl rfl e_u18 dX1_prepare_101 ?_
  obtain ⟨σ19, e_σ19, h⟩ := md_ob h
  refine cd_pP (u := u18) (o2 := 7) (o := 1) (k := 18) (f := 50) hj cx hw hic1 rfl ⟨by decide, rfl, by decide, rfl⟩ tyX1_ok nmX1 rfl (by decide) rfl (List.mem_cons_of_mem _ cm_72) rfl rfl e_σ19 dX1_prepare_102 (fun H locs hw => ?_)
  refine lv_aload_n cx.1 cx.2.1 dX1_prepare_105 rfl (lv_at hl 0 rfl) ?_
  obtain ⟨u20, e_u20, h⟩ := md_ob h
  have hb_u20 : u20 < 8 := (cd_dps e_u20).2
  refine cd_gP (o2 := 7) (u := u20) (o := 1) (k := 18) (f := 50) hj cx hw hic1 rfl ⟨by decide, rfl, by decide, rfl⟩ rfl (by decide) rfl e_u20 (List.mem_cons_of_mem _ cm_72) dX1_prepare_106 ?_
  refine lv_iconst (v := 0) cx.1 cx.2.1 dX1_prepare_109 (by decide) ?_
  obtain ⟨p21, e_p21, h⟩ := md_ob h
  refine hp_callVv (As := [.int 0]) (rest := []) cx hw (kc_X7_clear l D cA E _ ad _ hj oq sgq sgv hE n σ19 u20 (0 : Int32) (show _ < 8 by omega) p21 e_p21) (cwV 1 cx.2.2.2.2.2.1 (cd_giV cm_202 cm_203 cm_204 cm_94 cm_205) rfl rfl rfl hdc_X7_clear ⟨Nat.le_of_ble_eq_true rfl, Nat.le_of_ble_eq_true rfl⟩) (cd_atO hj (by decide) (show _ < 8 by omega)) rfl rfl hl.1 rfl (Nat.le_of_ble_eq_true rfl) dX1_prepare_110 ⟨by (try dsimp only); omega, by (try dsimp only); omega⟩ (fun u H locs hp hw => ?_)
  obtain ⟨ca, hj, rfl⟩ := hp
  refine lv_aload_n cx.1 cx.2.1 dX1_prepare_113 rfl (lv_at hl 0 rfl) ?_
  refine lv_aload_n cx.1 cx.2.1 dX1_prepare_114 rfl (lv_at hl 0 rfl) ?_
  obtain ⟨u22, e_u22, h⟩ := md_ob h
  have hb_u22 : u22 < 8 := (cd_dps e_u22).2
  refine cd_gP (o2 := 7) (u := u22) (o := 1) (k := 18) (f := 50) hj cx hw hic1 rfl ⟨by decide, rfl, by decide, rfl⟩ rfl (by decide) rfl e_u22 (List.mem_cons_of_mem _ cm_72) dX1_prepare_115 ?_
  refine lv_aload_n cx.1 cx.2.1 dX1_prepare_118 rfl (lv_at hl 1 rfl) ?_
  refine cd_gI (o := 9) (k := 2) (f := 290) hj cx hw hic9 rfl ⟨by decide, rfl, by decide, rfl⟩ rfl (show _ < 60 by omega) (List.mem_cons_of_mem _ cm_206) dX1_prepare_119 ?_
  obtain ⟨p23, e_p23, h⟩ := md_ob h
  obtain ⟨hm24, hn24, h⟩ := cd_cks h
  have hM24 : p.2.2.1 ≤ p23.2.2.1 ∧ p.2.2.2 ≤ p23.2.2.2 := ⟨hm24, hn24⟩
  have hle23 := (kc_X1_makeObject l D cA E sz ad _ hj oq sgq sgv hE n p21.2 b0 u22 ((cI p21.2 290 a1)) (show _ < 8 by omega) p23 e_p23).1
  refine hp_callVi (As := [.ref (ad 7 u22), .int (cI p21.2 290 a1)]) (rest := []) cx hw ((kc_X1_makeObject l D cA E _ ad _ hj oq sgq sgv hE n p21.2 b0 u22 ((cI p21.2 290 a1)) (show _ < 8 by omega) p23 e_p23).2) (cwV 2 cx.2.2.2.2.2.1 (cd_giV cm_207 cm_208 cm_209 cm_130 cm_210) rfl rfl rfl hdc_X1_makeObject ⟨Nat.le_of_ble_eq_true rfl, Nat.le_of_ble_eq_true rfl⟩) (cd_atO hj (by decide) (by decide)) rfl rfl hl.1 rfl (Nat.le_of_ble_eq_true rfl) dX1_prepare_122 ⟨by (try dsimp only); omega, by (try dsimp only); omega⟩ (fun r u H locs hp hw => ?_)
  obtain ⟨rfl, ca, hj, rfl⟩ := hp
  refine W.widen (k := b0.1 - p23.2.2.1) (n := b0.2 - p23.2.2.2) (by omega) (by omega) ?_
  refine lv_pop cx.1 cx.2.1 dX1_prepare_125 rfl ?_
  refine lv_aload_n cx.1 cx.2.1 dX1_prepare_126 rfl (lv_at hl 0 rfl) ?_
  obtain ⟨u25, e_u25, h⟩ := md_ob h
  have hb_u25 : u25 < 8 := (cd_dps e_u25).2
  refine cd_gP (o2 := 7) (u := u25) (o := 1) (k := 18) (f := 50) hj cx hw hic1 rfl ⟨by decide, rfl, by decide, rfl⟩ rfl (by decide) rfl e_u25 (List.mem_cons_of_mem _ cm_72) dX1_prepare_127 ?_
  refine lv_aload_n cx.1 cx.2.1 dX1_prepare_130 rfl (lv_at hl 1 rfl) ?_
  refine lv_iconst (v := 0) cx.1 cx.2.1 dX1_prepare_131 (by decide) ?_
  refine lv_iconst (v := 0) cx.1 cx.2.1 dX1_prepare_132 (by decide) ?_
  refine lv_iconst (v := (-1)) cx.1 cx.2.1 dX1_prepare_133 (by decide) ?_
  obtain ⟨p26, e_p26, h⟩ := md_ob h
  refine hp_callVv (As := [.ref (ad 9 a1), .int 0, .int 0, .int (-1)]) (rest := []) cx hw (kc_X7_call l D cA E _ ad _ hj oq sgq sgv hE n p23.2.1 u25 a1 (0 : Int32) (0 : Int32) ((-1) : Int32) (show _ < 8 by omega) (show _ < 60 by omega) p26 e_p26) (cwV 4 cx.2.2.2.2.2.1 (cd_giV cm_211 cm_212 cm_213 cm_94 cm_214) rfl rfl rfl hdc_X7_call ⟨Nat.le_of_ble_eq_true rfl, Nat.le_of_ble_eq_true rfl⟩) (cd_atO hj (by decide) (show _ < 8 by omega)) rfl rfl hl.1 rfl (Nat.le_of_ble_eq_true rfl) dX1_prepare_134 ⟨by (try dsimp only); omega, by (try dsimp only); omega⟩ (fun u H locs hp hw => ?_)
  obtain ⟨ca, hj, rfl⟩ := hp
  refine lv_aload_n cx.1 cx.2.1 dX1_prepare_137 rfl (lv_at hl 0 rfl) ?_
  refine lv_aload_n cx.1 cx.2.1 dX1_prepare_138 rfl (lv_at hl 0 rfl) ?_
  obtain ⟨u27, e_u27, h⟩ := md_ob h
  have hb_u27 : u27 < 8 := (cd_dps e_u27).2
  refine cd_gP (o2 := 7) (u := u27) (o := 1) (k := 18) (f := 50) hj cx hw hic1 rfl ⟨by decide, rfl, by decide, rfl⟩ rfl (by decide) rfl e_u27 (List.mem_cons_of_mem _ cm_72) dX1_prepare_139 ?_
  obtain ⟨p28, e_p28, h⟩ := md_ob h
  obtain ⟨hm29, hn29, h⟩ := cd_cks h
  have hM29 : p.2.2.1 ≤ p28.2.2.1 ∧ p.2.2.2 ≤ p28.2.2.2 := ⟨hm29, hn29⟩
  have hle28 := (kc_X1_begin l D cA E sz ad _ hj oq sgq sgv hE n p26.2 (p23.2.2) u27 (show _ < 8 by omega) p28 e_p28).1
  refine hp_callVi (As := [.ref (ad 7 u27)]) (rest := []) cx hw ((kc_X1_begin l D cA E _ ad _ hj oq sgq sgv hE n p26.2 (p23.2.2) u27 (show _ < 8 by omega) p28 e_p28).2) (cwV 1 cx.2.2.2.2.2.1 (cd_giV cm_215 cm_216 cm_217 cm_130 cm_218) rfl rfl rfl hdc_X1_begin ⟨Nat.le_of_ble_eq_true rfl, Nat.le_of_ble_eq_true rfl⟩) (cd_atO hj (by decide) (by decide)) rfl rfl hl.1 rfl (Nat.le_of_ble_eq_true rfl) dX1_prepare_142 ⟨by (try dsimp only); omega, by (try dsimp only); omega⟩ (fun r u H locs hp hw => ?_)
  obtain ⟨rfl, ca, hj, rfl⟩ := hp
  refine W.widen (k := b0.1 - p28.2.2.1) (n := b0.2 - p28.2.2.2) (by omega) (by omega) ?_
  refine lv_pop cx.1 cx.2.1 dX1_prepare_145 rfl ?_
  exact hp_vret cx hw ((cd_retb hj h).2) dX1_prepare_146 (cd_le1 h) (cd_le2 h)
set_option maxHeartbeats 4000000 in
set_option maxRecDepth 100000 in
theorem kc_X1_strandAt (l : Launch) (D : va_G) (cA : Nat → ClassId) (E : hp_N) (sz : Nat) (ad : Nat → Nat → Nat) (ca0 : Nat → Nat) (hj : cd_inj ad ca0) (oq sgq sgv : Nat) (hE : cd_E E oq sgq sgv) (n : Nat) (σ0 : cd_S) (a1 : Int32) (p : (Nat × cd_S)) (h : f_X1_strandAt n σ0 a1 = some p) : Met l yX1_strandAt (Cond.code yX1_strandAt cX1_strandAt 2 (some (.object "WardenHouse$Strand")) :: v_CLS) ({ frames := 0, cells := 0, slots := 0, locals := 0 }) (hp_Pc D vwCl (hp_Tl cA) E sz (cd_pic cA ad ca0 σ0) [.ref (ad 1 0), .int a1]) (hp_Qr D vwCl (hp_Tl cA) sz (cd_pic cA ad ca0 σ0) (fun r u => (p.1 < 8 ∧ r = ad 7 p.1) ∧ ∃ ca1, cd_inj ad ca1 ∧ u = cd_pic cA ad ca1 p.2)) 0 0 (hp_A (cd_pic cA ad ca0 σ0) sz) := by
  refine hp_ofW (cc := cX1_strandAt) (maxL := 2) (ret := (some (.object "WardenHouse$Strand"))) (by decide) rfl (Nat.le_of_ble_eq_true rfl) ?_
  intro pp ee ss mm bb mt cd ls cx hsz hw hl
  have hl : lv_has ls 2 [(0, .ref (ad 1 0)), (1, .int a1)] := hl
  have J19 : ∀ (ca : Nat → Nat) (hj : cd_inj ad ca) (σ : cd_S) (t0 : Int32) (H : Heap) (locs : List Loc) (ls : Array Slot), f_X1_strandAt_J19 n σ t0 = some p → hp_w D vwCl (hp_Tl cA) E (hp_A (cd_pic cA ad ca0 σ0) sz) ss H locs (cd_pic cA ad ca σ) → lv_has ls 2 [] → W pp l ee ({ frames := 0, cells := 0, slots := 0, locals := 0 }) ss mm [.ref (ad 1 0), .int a1].toArray bb mt cd H locs 0 0 (MQ bb (hp_Qr D vwCl (hp_Tl cA) sz (cd_pic cA ad ca0 σ0) (fun r u => (p.1 < 8 ∧ r = ad 7 p.1) ∧ ∃ ca1, cd_inj ad ca1 ∧ u = cd_pic cA ad ca1 p.2)) [.ref (ad 1 0), .int a1].toArray ss 0 0 (hp_A (cd_pic cA ad ca0 σ0) sz)) (F0 mm 19 ls [.int t0, .ref (ad 135 0)]) := by
    intro ca hj σ t0 H locs ls h hw hl
    obtain ⟨u1, e_u1, h⟩ := md_ob h
    have hb_u1 : u1 < 8 := (cd_ldRs e_u1).2.2
    refine cd_lR (f := 35) (o2 := 7) hj cx hw (by decide) (by decide) rfl (by decide) rfl rfl e_u1 dX1_strandAt_19 ?_
    exact hp_aret cx hw (cd_ra (cd_ret hj h) (by omega)) (Or.inl ⟨_, rfl⟩) dX1_strandAt_20
  have J18 : ∀ (ca : Nat → Nat) (hj : cd_inj ad ca) (σ : cd_S) (H : Heap) (locs : List Loc) (ls : Array Slot), f_X1_strandAt_J18 n σ = some p → hp_w D vwCl (hp_Tl cA) E (hp_A (cd_pic cA ad ca0 σ0) sz) ss H locs (cd_pic cA ad ca σ) → lv_has ls 2 [] → W pp l ee ({ frames := 0, cells := 0, slots := 0, locals := 0 }) ss mm [.ref (ad 1 0), .int a1].toArray bb mt cd H locs 0 0 (MQ bb (hp_Qr D vwCl (hp_Tl cA) sz (cd_pic cA ad ca0 σ0) (fun r u => (p.1 < 8 ∧ r = ad 7 p.1) ∧ ∃ ca1, cd_inj ad ca1 ∧ u = cd_pic cA ad ca1 p.2)) [.ref (ad 1 0), .int a1].toArray ss 0 0 (hp_A (cd_pic cA ad ca0 σ0) sz)) (F0 mm 18 ls [.ref (ad 135 0)]) := by
    intro ca hj σ H locs ls h hw hl
    refine lv_iconst (v := 0) cx.1 cx.2.1 dX1_strandAt_18 (by decide) ?_
    exact J19 _ hj σ 0 _ _ _ h hw (lv_sub hl [] rfl)
  refine lv_aload_n cx.1 cx.2.1 dX1_strandAt_0 rfl (lv_at hl 0 rfl) ?_
  refine cd_gA (o := 1) (k := 3) (f := 35) hj cx hw hic1 rfl ⟨by decide, rfl, by decide, rfl⟩ rfl (by decide) (List.mem_cons_of_mem _ cm_201) dX1_strandAt_1 ?_
  refine lv_iload_n cx.1 cx.2.1 dX1_strandAt_4 rfl (lv_at hl 1 rfl) ?_
  refine lv_if_lt (tgt := 18) cx.1 cx.2.1 dX1_strandAt_5 (by decide) (fun c5 => ?_) (fun c5 => ?_)
  · have h := md_ip c5 h
    exact J18 _ hj σ0 _ _ _ h hw (lv_sub hl [] rfl)
  · have h := md_in c5 h
    refine lv_iload_n cx.1 cx.2.1 dX1_strandAt_8 rfl (lv_at hl 1 rfl) ?_
    refine lv_bipush (v := 8) cx.1 cx.2.1 dX1_strandAt_9 (by decide) ?_
    refine lv_icmp_ge (tgt := 18) cx.1 cx.2.1 dX1_strandAt_11 (by decide) (fun c11 => ?_) (fun c11 => ?_)
    · have h := md_ip c11 h
      exact J18 _ hj σ0 _ _ _ h hw (lv_sub hl [] rfl)
    · have h := md_in c11 h
      refine lv_iload_n cx.1 cx.2.1 dX1_strandAt_14 rfl (lv_at hl 1 rfl) ?_
      refine lv_goto (tgt := 19) cx.1 cx.2.1 dX1_strandAt_15 (by decide) ?_
      exact J19 _ hj σ0 a1 _ _ _ h hw (lv_sub hl [] rfl)
set_option maxHeartbeats 4000000 in
set_option maxRecDepth 100000 in
theorem kc_X1_hasEnded (l : Launch) (D : va_G) (cA : Nat → ClassId) (E : hp_N) (sz : Nat) (ad : Nat → Nat → Nat) (ca0 : Nat → Nat) (hj : cd_inj ad ca0) (oq sgq sgv : Nat) (hE : cd_E E oq sgq sgv) (n : Nat) (σ0 : cd_S) (a1 : Int32) (p : (Int32 × cd_S)) (h : f_X1_hasEnded n σ0 a1 = some p) : Met l yX1_hasEnded (Cond.code yX1_hasEnded cX1_hasEnded 2 (some .boolean) :: v_CLS) ({ frames := 1, cells := 0, slots := 0, locals := 21 }) (hp_Pc D vwCl (hp_Tl cA) E sz (cd_pic cA ad ca0 σ0) [.ref (ad 1 0), .int a1]) (hp_Qi D vwCl (hp_Tl cA) sz (cd_pic cA ad ca0 σ0) (fun r u => r = p.1 ∧ ∃ ca1, cd_inj ad ca1 ∧ u = cd_pic cA ad ca1 p.2)) 0 0 (hp_A (cd_pic cA ad ca0 σ0) sz) := by
  refine hp_ofW (cc := cX1_hasEnded) (maxL := 2) (ret := (some .boolean)) (by decide) rfl (Nat.le_of_ble_eq_true rfl) ?_
  intro pp ee ss mm bb mt cd ls cx hsz hw hl
  have hl : lv_has ls 2 [(0, .ref (ad 1 0)), (1, .int a1)] := hl
  refine lv_aload_n cx.1 cx.2.1 dX1_hasEnded_0 rfl (lv_at hl 0 rfl) ?_
  refine lv_iload_n cx.1 cx.2.1 dX1_hasEnded_1 rfl (lv_at hl 1 rfl) ?_
  obtain ⟨p1, e_p1, h⟩ := md_ob h
  refine hp_callVr (As := [.int a1]) (rest := []) cx hw (kc_X1_strandAt l D cA E _ ad _ hj oq sgq sgv hE n σ0 a1 p1 e_p1) (cwV 1 cx.2.2.2.2.2.1 (cd_giV cm_219 cm_220 cm_221 cm_130 cm_222) rfl rfl rfl hdc_X1_strandAt ⟨Nat.le_of_ble_eq_true rfl, Nat.le_of_ble_eq_true rfl⟩) (cd_atO hj (by decide) (by decide)) rfl rfl hl.1 rfl (Nat.le_of_ble_eq_true rfl) dX1_hasEnded_2 ⟨Nat.le_refl _, Nat.le_refl _⟩ (fun r u H locs hp hw => ?_)
  obtain ⟨⟨hb_p1, rfl⟩, ca, hj, rfl⟩ := hp
  refine cd_gI (o := 7) (k := 10) (f := 234) hj cx hw hic7 rfl ⟨by decide, rfl, by decide, rfl⟩ rfl (show _ < 8 by omega) (List.mem_cons_of_mem _ cm_223) dX1_hasEnded_5 ?_
  refine lv_if_eq (tgt := 15) cx.1 cx.2.1 dX1_hasEnded_8 (by decide) (fun c8 => ?_) (fun c8 => ?_)
  · have h := md_ip c8 h
    refine lv_iconst (v := 0) cx.1 cx.2.1 dX1_hasEnded_15 (by decide) ?_
    exact hp_zret cx hw (cd_ret hj h) (by decide) dX1_hasEnded_16
  · have h := md_in c8 h
    refine lv_iconst (v := 1) cx.1 cx.2.1 dX1_hasEnded_11 (by decide) ?_
    refine lv_goto (tgt := 16) cx.1 cx.2.1 dX1_hasEnded_12 (by decide) ?_
    exact hp_zret cx hw (cd_ret hj h) (by decide) dX1_hasEnded_16
set_option maxHeartbeats 4000000 in
set_option maxRecDepth 100000 in
theorem kc_X1_allEnded (l : Launch) (D : va_G) (cA : Nat → ClassId) (E : hp_N) (sz : Nat) (ad : Nat → Nat → Nat) (ca0 : Nat → Nat) (hj : cd_inj ad ca0) (oq sgq sgv : Nat) (hE : cd_E E oq sgq sgv) (n : Nat) (σ0 : cd_S) (p : (Int32 × cd_S)) (h : f_X1_allEnded n σ0 = some p) : Met l yX1_allEnded (Cond.code yX1_allEnded cX1_allEnded 3 (some .boolean) :: v_CLS) ({ frames := 2, cells := 0, slots := 0, locals := 42 }) (hp_Pc D vwCl (hp_Tl cA) E sz (cd_pic cA ad ca0 σ0) [.ref (ad 1 0)]) (hp_Qi D vwCl (hp_Tl cA) sz (cd_pic cA ad ca0 σ0) (fun r u => r = p.1 ∧ ∃ ca1, cd_inj ad ca1 ∧ u = cd_pic cA ad ca1 p.2)) 0 0 (hp_A (cd_pic cA ad ca0 σ0) sz) := by
  refine hp_ofW (cc := cX1_allEnded) (maxL := 3) (ret := (some .boolean)) (by decide) rfl (Nat.le_of_ble_eq_true rfl) ?_
  intro pp ee ss mm bb mt cd ls cx hsz hw hl
  have hl : lv_has ls 3 [(0, .ref (ad 1 0))] := hl
  refine lv_iconst (v := 1) cx.1 cx.2.1 dX1_allEnded_0 (by decide) ?_
  refine lv_istore_n (lv' := [(1, .int 1), (0, .ref (ad 1 0))]) cx.1 cx.2.1 dX1_allEnded_1 rfl hl (by decide) rfl (fun ls hl => ?_)
  refine lv_iconst (v := 0) cx.1 cx.2.1 dX1_allEnded_2 (by decide) ?_
  refine lv_istore_n (lv' := [(2, .int 0), (1, .int 1), (0, .ref (ad 1 0))]) cx.1 cx.2.1 dX1_allEnded_3 rfl hl (by decide) rfl (fun ls hl => ?_)
  have L4 : ∀ (j : Nat) (ca : Nat → Nat) (hj : cd_inj ad ca) (σ : cd_S) (l1 : Int32) (l2 : Int32) (q : (cd_S × Int32 × Int32)) (H : Heap) (locs : List Loc) (ls : Array Slot), f_X1_allEnded_L4 n j σ l1 l2 = some q → hp_w D vwCl (hp_Tl cA) E (hp_A (cd_pic cA ad ca0 σ0) sz) ss H locs (cd_pic cA ad ca σ) → lv_has ls 3 [(0, .ref (ad 1 0)), (1, .int l1), (2, .int l2)] → (∀ (ca : Nat → Nat) (hj : cd_inj ad ca) (H : Heap) (locs : List Loc) (ls : Array Slot), hp_w D vwCl (hp_Tl cA) E (hp_A (cd_pic cA ad ca0 σ0) sz) ss H locs (cd_pic cA ad ca q.1) → lv_has ls 3 [(1, .int q.2.1)] → W pp l ee ({ frames := 2, cells := 0, slots := 0, locals := 42 }) ss mm [.ref (ad 1 0)].toArray bb mt cd H locs 0 0 (MQ bb (hp_Qi D vwCl (hp_Tl cA) sz (cd_pic cA ad ca0 σ0) (fun r u => r = p.1 ∧ ∃ ca1, cd_inj ad ca1 ∧ u = cd_pic cA ad ca1 p.2)) [.ref (ad 1 0)].toArray ss 0 0 (hp_A (cd_pic cA ad ca0 σ0) sz)) (F0 mm 36 ls [])) → W pp l ee ({ frames := 2, cells := 0, slots := 0, locals := 42 }) ss mm [.ref (ad 1 0)].toArray bb mt cd H locs 0 0 (MQ bb (hp_Qi D vwCl (hp_Tl cA) sz (cd_pic cA ad ca0 σ0) (fun r u => r = p.1 ∧ ∃ ca1, cd_inj ad ca1 ∧ u = cd_pic cA ad ca1 p.2)) [.ref (ad 1 0)].toArray ss 0 0 (hp_A (cd_pic cA ad ca0 σ0) sz)) (F0 mm 4 ls []) := by
    intro j
    induction j with
    | zero => intro ca hj σ l1 l2 q H locs ls h; exact nomatch h
    | succ j ih =>
      intro ca hj σ l1 l2 q H locs ls h hw hl K
      unfold f_X1_allEnded_L4 at h
      have J29 : ∀ (ca : Nat → Nat) (hj : cd_inj ad ca) (σ : cd_S) (l2 : Int32) (t0 : Int32) (H : Heap) (locs : List Loc) (ls : Array Slot), f_X1_allEnded_J29 n (f_X1_allEnded_L4 n j) σ l2 t0 = some q → hp_w D vwCl (hp_Tl cA) E (hp_A (cd_pic cA ad ca0 σ0) sz) ss H locs (cd_pic cA ad ca σ) → lv_has ls 3 [(0, .ref (ad 1 0)), (2, .int l2)] → W pp l ee ({ frames := 2, cells := 0, slots := 0, locals := 42 }) ss mm [.ref (ad 1 0)].toArray bb mt cd H locs 0 0 (MQ bb (hp_Qi D vwCl (hp_Tl cA) sz (cd_pic cA ad ca0 σ0) (fun r u => r = p.1 ∧ ∃ ca1, cd_inj ad ca1 ∧ u = cd_pic cA ad ca1 p.2)) [.ref (ad 1 0)].toArray ss 0 0 (hp_A (cd_pic cA ad ca0 σ0) sz)) (F0 mm 29 ls [.int t0]) := by
        intro ca hj σ l2 t0 H locs ls h hw hl
        refine lv_istore_n (lv' := [(1, .int t0), (0, .ref (ad 1 0)), (2, .int l2)]) cx.1 cx.2.1 dX1_allEnded_29 rfl hl (by decide) rfl (fun ls hl => ?_)
        refine lv_iinc (v := (l2 + 1)) (lv' := [(2, .int (l2 + 1)), (1, .int t0), (0, .ref (ad 1 0))]) cx.1 cx.2.1 dX1_allEnded_30 hl (k := 2) rfl rfl (by decide) rfl (fun ls hl => ?_)
        refine lv_goto (tgt := 4) cx.1 cx.2.1 dX1_allEnded_33 (by decide) ?_
        exact ih _ hj σ t0 ((l2 + 1)) q _ _ _ h hw (lv_sub hl [2, 1, 0] rfl) K
      have J28 : ∀ (ca : Nat → Nat) (hj : cd_inj ad ca) (σ : cd_S) (l2 : Int32) (H : Heap) (locs : List Loc) (ls : Array Slot), f_X1_allEnded_J28 n (f_X1_allEnded_L4 n j) σ l2 = some q → hp_w D vwCl (hp_Tl cA) E (hp_A (cd_pic cA ad ca0 σ0) sz) ss H locs (cd_pic cA ad ca σ) → lv_has ls 3 [(0, .ref (ad 1 0)), (2, .int l2)] → W pp l ee ({ frames := 2, cells := 0, slots := 0, locals := 42 }) ss mm [.ref (ad 1 0)].toArray bb mt cd H locs 0 0 (MQ bb (hp_Qi D vwCl (hp_Tl cA) sz (cd_pic cA ad ca0 σ0) (fun r u => r = p.1 ∧ ∃ ca1, cd_inj ad ca1 ∧ u = cd_pic cA ad ca1 p.2)) [.ref (ad 1 0)].toArray ss 0 0 (hp_A (cd_pic cA ad ca0 σ0) sz)) (F0 mm 28 ls []) := by
        intro ca hj σ l2 H locs ls h hw hl
        refine lv_iconst (v := 0) cx.1 cx.2.1 dX1_allEnded_28 (by decide) ?_
        exact J29 _ hj σ l2 0 _ _ _ h hw (lv_sub hl [0, 1] rfl)
      refine lv_iload_n cx.1 cx.2.1 dX1_allEnded_4 rfl (lv_at hl 2 rfl) ?_
      refine lv_aload_n cx.1 cx.2.1 dX1_allEnded_5 rfl (lv_at hl 0 rfl) ?_
      refine cd_gI (o := 1) (k := 8) (f := 40) hj cx hw hic1 rfl ⟨by decide, rfl, by decide, rfl⟩ rfl (by decide) (List.mem_cons_of_mem _ cm_153) dX1_allEnded_6 ?_
      refine lv_icmp_ge (tgt := 36) cx.1 cx.2.1 dX1_allEnded_9 (by decide) (fun c9 => ?_) (fun c9 => ?_)
      · have h := md_ip c9 h
        obtain rfl := Option.some.inj h
        exact K _ hj _ _ _ hw (lv_sub hl [1] rfl)
      · have h := md_in c9 h
        refine lv_iload_n cx.1 cx.2.1 dX1_allEnded_12 rfl (lv_at hl 1 rfl) ?_
        refine lv_if_eq (tgt := 28) cx.1 cx.2.1 dX1_allEnded_13 (by decide) (fun c13 => ?_) (fun c13 => ?_)
        · have h := md_ip c13 h
          exact J28 _ hj σ l2 _ _ _ h hw (lv_sub hl [0, 2] rfl)
        · have h := md_in c13 h
          refine lv_aload_n cx.1 cx.2.1 dX1_allEnded_16 rfl (lv_at hl 0 rfl) ?_
          refine lv_iload_n cx.1 cx.2.1 dX1_allEnded_17 rfl (lv_at hl 2 rfl) ?_
          obtain ⟨p1, e_p1, h⟩ := md_ob h
          refine hp_callVi (As := [.int l2]) (rest := []) cx hw (kc_X1_hasEnded l D cA E _ ad _ hj oq sgq sgv hE n σ l2 p1 e_p1) (cwV 1 cx.2.2.2.2.2.1 (cd_giV cm_224 cm_225 cm_226 cm_130 cm_227) rfl rfl rfl hdc_X1_hasEnded ⟨Nat.le_of_ble_eq_true rfl, Nat.le_of_ble_eq_true rfl⟩) (cd_atO hj (by decide) (by decide)) rfl rfl hl.1 rfl (Nat.le_of_ble_eq_true rfl) dX1_allEnded_18 ⟨Nat.le_refl _, Nat.le_refl _⟩ (fun r u H locs hp hw => ?_)
          obtain ⟨rfl, ca, hj, rfl⟩ := hp
          refine lv_if_eq (tgt := 28) cx.1 cx.2.1 dX1_allEnded_21 (by decide) (fun c21 => ?_) (fun c21 => ?_)
          · have h := md_ip c21 h
            exact J28 _ hj p1.2 l2 _ _ _ h hw (lv_sub hl [0, 2] rfl)
          · have h := md_in c21 h
            refine lv_iconst (v := 1) cx.1 cx.2.1 dX1_allEnded_24 (by decide) ?_
            refine lv_goto (tgt := 29) cx.1 cx.2.1 dX1_allEnded_25 (by decide) ?_
            exact J29 _ hj p1.2 l2 1 _ _ _ h hw (lv_sub hl [0, 2] rfl)
  obtain ⟨q2, e_q2, h⟩ := md_ob h
  refine L4 n _ hj σ0 1 0 q2 _ _ _ e_q2 hw (lv_sub hl [2, 1, 0] rfl) (fun ca hj H locs ls hw hl => ?_)
  refine lv_iload_n cx.1 cx.2.1 dX1_allEnded_36 rfl (lv_at hl 0 rfl) ?_
  obtain ⟨z3, e_z3, h⟩ := md_ob h
  rw [(md_zbs e_z3).1] at h
  exact hp_zret cx hw (cd_ret hj h) (md_nbn (md_zbs e_z3).2) dX1_allEnded_37
set_option maxHeartbeats 4000000 in
set_option maxRecDepth 100000 in
theorem kc_X1_canGoOn (l : Launch) (D : va_G) (cA : Nat → ClassId) (E : hp_N) (sz : Nat) (ad : Nat → Nat → Nat) (ca0 : Nat → Nat) (hj : cd_inj ad ca0) (oq sgq sgv : Nat) (hE : cd_E E oq sgq sgv) (n : Nat) (σ0 : cd_S) (a1 : Int32) (p : (Int32 × cd_S)) (h : f_X1_canGoOn n σ0 a1 = some p) : Met l yX1_canGoOn (Cond.code yX1_canGoOn cX1_canGoOn 3 (some .boolean) :: v_CLS) ({ frames := 2, cells := 0, slots := 0, locals := 42 }) (hp_Pc D vwCl (hp_Tl cA) E sz (cd_pic cA ad ca0 σ0) [.ref (ad 1 0), .int a1]) (hp_Qi D vwCl (hp_Tl cA) sz (cd_pic cA ad ca0 σ0) (fun r u => r = p.1 ∧ ∃ ca1, cd_inj ad ca1 ∧ u = cd_pic cA ad ca1 p.2)) 0 0 (hp_A (cd_pic cA ad ca0 σ0) sz) := by
  refine hp_ofW (cc := cX1_canGoOn) (maxL := 3) (ret := (some .boolean)) (by decide) rfl (Nat.le_of_ble_eq_true rfl) ?_
  intro pp ee ss mm bb mt cd ls cx hsz hw hl
  have hl : lv_has ls 3 [(0, .ref (ad 1 0)), (1, .int a1)] := hl
  have J33 : ∀ (ca : Nat → Nat) (hj : cd_inj ad ca) (σ : cd_S) (H : Heap) (locs : List Loc) (ls : Array Slot), f_X1_canGoOn_J33 n σ = some p → hp_w D vwCl (hp_Tl cA) E (hp_A (cd_pic cA ad ca0 σ0) sz) ss H locs (cd_pic cA ad ca σ) → lv_has ls 3 [] → W pp l ee ({ frames := 2, cells := 0, slots := 0, locals := 42 }) ss mm [.ref (ad 1 0), .int a1].toArray bb mt cd H locs 0 0 (MQ bb (hp_Qi D vwCl (hp_Tl cA) sz (cd_pic cA ad ca0 σ0) (fun r u => r = p.1 ∧ ∃ ca1, cd_inj ad ca1 ∧ u = cd_pic cA ad ca1 p.2)) [.ref (ad 1 0), .int a1].toArray ss 0 0 (hp_A (cd_pic cA ad ca0 σ0) sz)) (F0 mm 33 ls []) := by
    intro ca hj σ H locs ls h hw hl
    refine lv_iconst (v := 1) cx.1 cx.2.1 dX1_canGoOn_33 (by decide) ?_
    refine lv_goto (tgt := 38) cx.1 cx.2.1 dX1_canGoOn_34 (by decide) ?_
    exact hp_zret cx hw (cd_ret hj h) (by decide) dX1_canGoOn_38
  refine lv_aload_n cx.1 cx.2.1 dX1_canGoOn_0 rfl (lv_at hl 0 rfl) ?_
  refine lv_iload_n cx.1 cx.2.1 dX1_canGoOn_1 rfl (lv_at hl 1 rfl) ?_
  obtain ⟨p1, e_p1, h⟩ := md_ob h
  refine hp_callVr (As := [.int a1]) (rest := []) cx hw (kc_X1_strandAt l D cA E _ ad _ hj oq sgq sgv hE n σ0 a1 p1 e_p1) (cwV 1 cx.2.2.2.2.2.1 (cd_giV cm_219 cm_220 cm_221 cm_130 cm_222) rfl rfl rfl hdc_X1_strandAt ⟨Nat.le_of_ble_eq_true rfl, Nat.le_of_ble_eq_true rfl⟩) (cd_atO hj (by decide) (by decide)) rfl rfl hl.1 rfl (Nat.le_of_ble_eq_true rfl) dX1_canGoOn_2 ⟨Nat.le_refl _, Nat.le_refl _⟩ (fun r u H locs hp hw => ?_)
  obtain ⟨⟨hb_p1, rfl⟩, ca, hj, rfl⟩ := hp
  refine lv_astore_n (lv' := [(2, .ref (ad 7 p1.1)), (0, .ref (ad 1 0)), (1, .int a1)]) cx.1 cx.2.1 dX1_canGoOn_5 rfl hl (by decide) rfl (fun ls hl => ?_)
  refine lv_aload_n cx.1 cx.2.1 dX1_canGoOn_6 rfl (lv_at hl 1 rfl) ?_
  refine lv_iload_n cx.1 cx.2.1 dX1_canGoOn_7 rfl (lv_at hl 2 rfl) ?_
  obtain ⟨p2, e_p2, h⟩ := md_ob h
  refine hp_callVi (As := [.int a1]) (rest := []) cx hw (kc_X1_hasEnded l D cA E _ ad _ hj oq sgq sgv hE n p1.2 a1 p2 e_p2) (cwV 1 cx.2.2.2.2.2.1 (cd_giV cm_224 cm_225 cm_226 cm_130 cm_227) rfl rfl rfl hdc_X1_hasEnded ⟨Nat.le_of_ble_eq_true rfl, Nat.le_of_ble_eq_true rfl⟩) (cd_atO hj (by decide) (by decide)) rfl rfl hl.1 rfl (Nat.le_of_ble_eq_true rfl) dX1_canGoOn_8 ⟨Nat.le_refl _, Nat.le_refl _⟩ (fun r u H locs hp hw => ?_)
  obtain ⟨rfl, ca, hj, rfl⟩ := hp
  refine lv_if_ne (tgt := 37) cx.1 cx.2.1 dX1_canGoOn_11 (by decide) (fun c11 => ?_) (fun c11 => ?_)
  · have h := md_in c11 h
    refine lv_iconst (v := 0) cx.1 cx.2.1 dX1_canGoOn_37 (by decide) ?_
    exact hp_zret cx hw (cd_ret hj h) (by decide) dX1_canGoOn_38
  · have h := md_ip c11 h
    refine lv_aload_n cx.1 cx.2.1 dX1_canGoOn_14 rfl (lv_at hl 0 rfl) ?_
    refine cd_gI (o := 7) (k := 11) (f := 235) hj cx hw hic7 rfl ⟨by decide, rfl, by decide, rfl⟩ rfl (show _ < 8 by omega) (List.mem_cons_of_mem _ cm_228) dX1_canGoOn_15 ?_
    refine lv_iconst (v := (-1)) cx.1 cx.2.1 dX1_canGoOn_18 (by decide) ?_
    refine lv_icmp_eq (tgt := 33) cx.1 cx.2.1 dX1_canGoOn_19 (by decide) (fun c19 => ?_) (fun c19 => ?_)
    · have h := md_ip c19 h
      exact J33 _ hj p2.2 _ _ _ h hw (lv_sub hl [] rfl)
    · have h := md_in c19 h
      refine lv_aload_n cx.1 cx.2.1 dX1_canGoOn_22 rfl (lv_at hl 1 rfl) ?_
      refine lv_aload_n cx.1 cx.2.1 dX1_canGoOn_23 rfl (lv_at hl 0 rfl) ?_
      refine cd_gI (o := 7) (k := 11) (f := 235) hj cx hw hic7 rfl ⟨by decide, rfl, by decide, rfl⟩ rfl (show _ < 8 by omega) (List.mem_cons_of_mem _ cm_228) dX1_canGoOn_24 ?_
      obtain ⟨p3, e_p3, h⟩ := md_ob h
      refine hp_callVi (As := [.int (cI p2.2 235 (p1.1))]) (rest := []) cx hw (kc_X1_hasEnded l D cA E _ ad _ hj oq sgq sgv hE n p2.2 ((cI p2.2 235 (p1.1))) p3 e_p3) (cwV 1 cx.2.2.2.2.2.1 (cd_giV cm_224 cm_225 cm_226 cm_130 cm_227) rfl rfl rfl hdc_X1_hasEnded ⟨Nat.le_of_ble_eq_true rfl, Nat.le_of_ble_eq_true rfl⟩) (cd_atO hj (by decide) (by decide)) rfl rfl hl.1 rfl (Nat.le_of_ble_eq_true rfl) dX1_canGoOn_27 ⟨Nat.le_refl _, Nat.le_refl _⟩ (fun r u H locs hp hw => ?_)
      obtain ⟨rfl, ca, hj, rfl⟩ := hp
      refine lv_if_eq (tgt := 37) cx.1 cx.2.1 dX1_canGoOn_30 (by decide) (fun c30 => ?_) (fun c30 => ?_)
      · have h := md_ip c30 h
        refine lv_iconst (v := 0) cx.1 cx.2.1 dX1_canGoOn_37 (by decide) ?_
        exact hp_zret cx hw (cd_ret hj h) (by decide) dX1_canGoOn_38
      · have h := md_in c30 h
        exact J33 _ hj p3.2 _ _ _ h hw (lv_sub hl [] rfl)
set_option maxHeartbeats 4000000 in
set_option maxRecDepth 100000 in
theorem kc_X1_choose (l : Launch) (D : va_G) (cA : Nat → ClassId) (E : hp_N) (sz : Nat) (ad : Nat → Nat → Nat) (ca0 : Nat → Nat) (hj : cd_inj ad ca0) (oq sgq sgv : Nat) (hE : cd_E E oq sgq sgv) (n : Nat) (σ0 : cd_S) (p : (Int32 × cd_S)) (h : f_X1_choose n σ0 = some p) : Met l yX1_choose (Cond.code yX1_choose cX1_choose 4 (some .int) :: v_CLS) ({ frames := 3, cells := 0, slots := 0, locals := 64 }) (hp_Pc D vwCl (hp_Tl cA) E sz (cd_pic cA ad ca0 σ0) [.ref (ad 1 0)]) (hp_Qi D vwCl (hp_Tl cA) sz (cd_pic cA ad ca0 σ0) (fun r u => r = p.1 ∧ ∃ ca1, cd_inj ad ca1 ∧ u = cd_pic cA ad ca1 p.2)) 0 0 (hp_A (cd_pic cA ad ca0 σ0) sz) := by
  refine hp_ofW (cc := cX1_choose) (maxL := 4) (ret := (some .int)) (by decide) rfl (Nat.le_of_ble_eq_true rfl) ?_
  intro pp ee ss mm bb mt cd ls cx hsz hw hl
  have hl : lv_has ls 4 [(0, .ref (ad 1 0))] := hl
  have J74 : ∀ (ca : Nat → Nat) (hj : cd_inj ad ca) (σ : cd_S) (l2 : Int32) (H : Heap) (locs : List Loc) (ls : Array Slot), f_X1_choose_J74 n σ l2 = some p → hp_w D vwCl (hp_Tl cA) E (hp_A (cd_pic cA ad ca0 σ0) sz) ss H locs (cd_pic cA ad ca σ) → lv_has ls 4 [(0, .ref (ad 1 0)), (2, .int l2)] → W pp l ee ({ frames := 3, cells := 0, slots := 0, locals := 64 }) ss mm [.ref (ad 1 0)].toArray bb mt cd H locs 0 0 (MQ bb (hp_Qi D vwCl (hp_Tl cA) sz (cd_pic cA ad ca0 σ0) (fun r u => r = p.1 ∧ ∃ ca1, cd_inj ad ca1 ∧ u = cd_pic cA ad ca1 p.2)) [.ref (ad 1 0)].toArray ss 0 0 (hp_A (cd_pic cA ad ca0 σ0) sz)) (F0 mm 74 ls []) := by
    intro ca hj σ l2 H locs ls h hw hl
    refine lv_iconst (v := 0) cx.1 cx.2.1 dX1_choose_74 (by decide) ?_
    refine lv_istore_n (lv' := [(3, .int 0), (0, .ref (ad 1 0)), (2, .int l2)]) cx.1 cx.2.1 dX1_choose_75 rfl hl (by decide) rfl (fun ls hl => ?_)
    have L76 : ∀ (j : Nat) (ca : Nat → Nat) (hj : cd_inj ad ca) (σ : cd_S) (l2 : Int32) (l3 : Int32) (q : (cd_S × Int32 × Int32)) (H : Heap) (locs : List Loc) (ls : Array Slot), f_X1_choose_L76 n j σ l2 l3 = some q → hp_w D vwCl (hp_Tl cA) E (hp_A (cd_pic cA ad ca0 σ0) sz) ss H locs (cd_pic cA ad ca σ) → lv_has ls 4 [(0, .ref (ad 1 0)), (2, .int l2), (3, .int l3)] → (∀ (ca : Nat → Nat) (hj : cd_inj ad ca) (H : Heap) (locs : List Loc) (ls : Array Slot), hp_w D vwCl (hp_Tl cA) E (hp_A (cd_pic cA ad ca0 σ0) sz) ss H locs (cd_pic cA ad ca q.1) → lv_has ls 4 [(3, .int q.2.2)] → W pp l ee ({ frames := 3, cells := 0, slots := 0, locals := 64 }) ss mm [.ref (ad 1 0)].toArray bb mt cd H locs 0 0 (MQ bb (hp_Qi D vwCl (hp_Tl cA) sz (cd_pic cA ad ca0 σ0) (fun r u => r = p.1 ∧ ∃ ca1, cd_inj ad ca1 ∧ u = cd_pic cA ad ca1 p.2)) [.ref (ad 1 0)].toArray ss 0 0 (hp_A (cd_pic cA ad ca0 σ0) sz)) (F0 mm 118 ls [])) → W pp l ee ({ frames := 3, cells := 0, slots := 0, locals := 64 }) ss mm [.ref (ad 1 0)].toArray bb mt cd H locs 0 0 (MQ bb (hp_Qi D vwCl (hp_Tl cA) sz (cd_pic cA ad ca0 σ0) (fun r u => r = p.1 ∧ ∃ ca1, cd_inj ad ca1 ∧ u = cd_pic cA ad ca1 p.2)) [.ref (ad 1 0)].toArray ss 0 0 (hp_A (cd_pic cA ad ca0 σ0) sz)) (F0 mm 76 ls []) := by
      intro j
      induction j with
      | zero => intro ca hj σ l2 l3 q H locs ls h; exact nomatch h
      | succ j ih =>
        intro ca hj σ l2 l3 q H locs ls h hw hl K
        unfold f_X1_choose_L76 at h
        have J110 : ∀ (ca : Nat → Nat) (hj : cd_inj ad ca) (σ : cd_S) (l3 : Int32) (t0 : Int32) (t1 : Int32) (H : Heap) (locs : List Loc) (ls : Array Slot), f_X1_choose_J110 n (f_X1_choose_L76 n j) σ l3 t0 t1 = some q → hp_w D vwCl (hp_Tl cA) E (hp_A (cd_pic cA ad ca0 σ0) sz) ss H locs (cd_pic cA ad ca σ) → lv_has ls 4 [(0, .ref (ad 1 0)), (3, .int l3)] → W pp l ee ({ frames := 3, cells := 0, slots := 0, locals := 64 }) ss mm [.ref (ad 1 0)].toArray bb mt cd H locs 0 0 (MQ bb (hp_Qi D vwCl (hp_Tl cA) sz (cd_pic cA ad ca0 σ0) (fun r u => r = p.1 ∧ ∃ ca1, cd_inj ad ca1 ∧ u = cd_pic cA ad ca1 p.2)) [.ref (ad 1 0)].toArray ss 0 0 (hp_A (cd_pic cA ad ca0 σ0) sz)) (F0 mm 110 ls [.int t0, .int t1]) := by
          intro ca hj σ l3 t0 t1 H locs ls h hw hl
          refine lv_isub cx.1 cx.2.1 dX1_choose_110 ?_
          refine lv_istore_n (lv' := [(2, .int (t1 - t0)), (0, .ref (ad 1 0)), (3, .int l3)]) cx.1 cx.2.1 dX1_choose_111 rfl hl (by decide) rfl (fun ls hl => ?_)
          refine lv_iinc (v := (l3 + 1)) (lv' := [(3, .int (l3 + 1)), (2, .int (t1 - t0)), (0, .ref (ad 1 0))]) cx.1 cx.2.1 dX1_choose_112 hl (k := 2) rfl rfl (by decide) rfl (fun ls hl => ?_)
          refine lv_goto (tgt := 76) cx.1 cx.2.1 dX1_choose_115 (by decide) ?_
          exact ih _ hj σ ((t1 - t0)) ((l3 + 1)) q _ _ _ h hw (lv_sub hl [2, 1, 0] rfl) K
        have J96 : ∀ (ca : Nat → Nat) (hj : cd_inj ad ca) (σ : cd_S) (l2 : Int32) (l3 : Int32) (H : Heap) (locs : List Loc) (ls : Array Slot), f_X1_choose_J96 n (f_X1_choose_L76 n j) σ l2 l3 = some q → hp_w D vwCl (hp_Tl cA) E (hp_A (cd_pic cA ad ca0 σ0) sz) ss H locs (cd_pic cA ad ca σ) → lv_has ls 4 [(0, .ref (ad 1 0)), (2, .int l2), (3, .int l3)] → W pp l ee ({ frames := 3, cells := 0, slots := 0, locals := 64 }) ss mm [.ref (ad 1 0)].toArray bb mt cd H locs 0 0 (MQ bb (hp_Qi D vwCl (hp_Tl cA) sz (cd_pic cA ad ca0 σ0) (fun r u => r = p.1 ∧ ∃ ca1, cd_inj ad ca1 ∧ u = cd_pic cA ad ca1 p.2)) [.ref (ad 1 0)].toArray ss 0 0 (hp_A (cd_pic cA ad ca0 σ0) sz)) (F0 mm 96 ls []) := by
          intro ca hj σ l2 l3 H locs ls h hw hl
          refine lv_iload_n cx.1 cx.2.1 dX1_choose_96 rfl (lv_at hl 1 rfl) ?_
          refine lv_aload_n cx.1 cx.2.1 dX1_choose_97 rfl (lv_at hl 0 rfl) ?_
          refine lv_iload_n cx.1 cx.2.1 dX1_choose_98 rfl (lv_at hl 2 rfl) ?_
          obtain ⟨p1, e_p1, h⟩ := md_ob h
          refine hp_callVi (As := [.int l3]) (rest := [.int l2]) cx hw (kc_X1_canGoOn l D cA E _ ad _ hj oq sgq sgv hE n σ l3 p1 e_p1) (cwV 1 cx.2.2.2.2.2.1 (cd_giV cm_229 cm_230 cm_231 cm_130 cm_232) rfl rfl rfl hdc_X1_canGoOn ⟨Nat.le_of_ble_eq_true rfl, Nat.le_of_ble_eq_true rfl⟩) (cd_atO hj (by decide) (by decide)) rfl rfl hl.1 rfl (Nat.le_of_ble_eq_true rfl) dX1_choose_99 ⟨Nat.le_refl _, Nat.le_refl _⟩ (fun r u H locs hp hw => ?_)
          obtain ⟨rfl, ca, hj, rfl⟩ := hp
          refine lv_if_eq (tgt := 109) cx.1 cx.2.1 dX1_choose_102 (by decide) (fun c102 => ?_) (fun c102 => ?_)
          · have h := md_ip c102 h
            refine lv_iconst (v := 0) cx.1 cx.2.1 dX1_choose_109 (by decide) ?_
            exact J110 _ hj p1.2 l3 0 l2 _ _ _ h hw (lv_sub hl [0, 2] rfl)
          · have h := md_in c102 h
            refine lv_iconst (v := 1) cx.1 cx.2.1 dX1_choose_105 (by decide) ?_
            refine lv_goto (tgt := 110) cx.1 cx.2.1 dX1_choose_106 (by decide) ?_
            exact J110 _ hj p1.2 l3 1 l2 _ _ _ h hw (lv_sub hl [0, 2] rfl)
        refine lv_iload_n cx.1 cx.2.1 dX1_choose_76 rfl (lv_at hl 2 rfl) ?_
        refine lv_aload_n cx.1 cx.2.1 dX1_choose_77 rfl (lv_at hl 0 rfl) ?_
        refine cd_gI (o := 1) (k := 8) (f := 40) hj cx hw hic1 rfl ⟨by decide, rfl, by decide, rfl⟩ rfl (by decide) (List.mem_cons_of_mem _ cm_153) dX1_choose_78 ?_
        refine lv_icmp_ge (tgt := 118) cx.1 cx.2.1 dX1_choose_81 (by decide) (fun c81 => ?_) (fun c81 => ?_)
        · have h := md_ip c81 h
          obtain rfl := Option.some.inj h
          exact K _ hj _ _ _ hw (lv_sub hl [2] rfl)
        · have h := md_in c81 h
          refine lv_iload_n cx.1 cx.2.1 dX1_choose_84 rfl (lv_at hl 1 rfl) ?_
          refine lv_if_gt (tgt := 96) cx.1 cx.2.1 dX1_choose_85 (by decide) (fun c85 => ?_) (fun c85 => ?_)
          · have h := md_ip c85 h
            exact J96 _ hj σ l2 l3 _ _ _ h hw (lv_sub hl [0, 1, 2] rfl)
          · have h := md_in c85 h
            refine lv_aload_n cx.1 cx.2.1 dX1_choose_88 rfl (lv_at hl 0 rfl) ?_
            refine lv_iload_n cx.1 cx.2.1 dX1_choose_89 rfl (lv_at hl 2 rfl) ?_
            obtain ⟨p2, e_p2, h⟩ := md_ob h
            refine hp_callVi (As := [.int l3]) (rest := []) cx hw (kc_X1_canGoOn l D cA E _ ad _ hj oq sgq sgv hE n σ l3 p2 e_p2) (cwV 1 cx.2.2.2.2.2.1 (cd_giV cm_229 cm_230 cm_231 cm_130 cm_232) rfl rfl rfl hdc_X1_canGoOn ⟨Nat.le_of_ble_eq_true rfl, Nat.le_of_ble_eq_true rfl⟩) (cd_atO hj (by decide) (by decide)) rfl rfl hl.1 rfl (Nat.le_of_ble_eq_true rfl) dX1_choose_90 ⟨Nat.le_refl _, Nat.le_refl _⟩ (fun r u H locs hp hw => ?_)
            obtain ⟨rfl, ca, hj, rfl⟩ := hp
            refine lv_if_ne (tgt := 118) cx.1 cx.2.1 dX1_choose_93 (by decide) (fun c93 => ?_) (fun c93 => ?_)
            · have h := md_in c93 h
              obtain rfl := Option.some.inj h
              exact K _ hj _ _ _ hw (lv_sub hl [2] rfl)
            · have h := md_ip c93 h
              exact J96 _ hj p2.2 l2 l3 _ _ _ h hw (lv_sub hl [0, 1, 2] rfl)
    obtain ⟨q3, e_q3, h⟩ := md_ob h
    refine L76 n _ hj σ l2 0 q3 _ _ _ e_q3 hw (lv_sub hl [1, 2, 0] rfl) (fun ca hj H locs ls hw hl => ?_)
    refine lv_iload_n cx.1 cx.2.1 dX1_choose_118 rfl (lv_at hl 0 rfl) ?_
    exact hp_iret cx hw (cd_ret hj h) dX1_choose_119
  refine lv_iconst (v := 0) cx.1 cx.2.1 dX1_choose_0 (by decide) ?_
  refine lv_istore_n (lv' := [(1, .int 0), (0, .ref (ad 1 0))]) cx.1 cx.2.1 dX1_choose_1 rfl hl (by decide) rfl (fun ls hl => ?_)
  refine lv_iconst (v := 0) cx.1 cx.2.1 dX1_choose_2 (by decide) ?_
  refine lv_istore_n (lv' := [(2, .int 0), (1, .int 0), (0, .ref (ad 1 0))]) cx.1 cx.2.1 dX1_choose_3 rfl hl (by decide) rfl (fun ls hl => ?_)
  have L4 : ∀ (j : Nat) (ca : Nat → Nat) (hj : cd_inj ad ca) (σ : cd_S) (l1 : Int32) (l2 : Int32) (q : (cd_S × Int32 × Int32)) (H : Heap) (locs : List Loc) (ls : Array Slot), f_X1_choose_L4 n j σ l1 l2 = some q → hp_w D vwCl (hp_Tl cA) E (hp_A (cd_pic cA ad ca0 σ0) sz) ss H locs (cd_pic cA ad ca σ) → lv_has ls 4 [(0, .ref (ad 1 0)), (1, .int l1), (2, .int l2)] → (∀ (ca : Nat → Nat) (hj : cd_inj ad ca) (H : Heap) (locs : List Loc) (ls : Array Slot), hp_w D vwCl (hp_Tl cA) E (hp_A (cd_pic cA ad ca0 σ0) sz) ss H locs (cd_pic cA ad ca q.1) → lv_has ls 4 [(0, .ref (ad 1 0)), (1, .int q.2.1)] → W pp l ee ({ frames := 3, cells := 0, slots := 0, locals := 64 }) ss mm [.ref (ad 1 0)].toArray bb mt cd H locs 0 0 (MQ bb (hp_Qi D vwCl (hp_Tl cA) sz (cd_pic cA ad ca0 σ0) (fun r u => r = p.1 ∧ ∃ ca1, cd_inj ad ca1 ∧ u = cd_pic cA ad ca1 p.2)) [.ref (ad 1 0)].toArray ss 0 0 (hp_A (cd_pic cA ad ca0 σ0) sz)) (F0 mm 34 ls [])) → W pp l ee ({ frames := 3, cells := 0, slots := 0, locals := 64 }) ss mm [.ref (ad 1 0)].toArray bb mt cd H locs 0 0 (MQ bb (hp_Qi D vwCl (hp_Tl cA) sz (cd_pic cA ad ca0 σ0) (fun r u => r = p.1 ∧ ∃ ca1, cd_inj ad ca1 ∧ u = cd_pic cA ad ca1 p.2)) [.ref (ad 1 0)].toArray ss 0 0 (hp_A (cd_pic cA ad ca0 σ0) sz)) (F0 mm 4 ls []) := by
    intro j
    induction j with
    | zero => intro ca hj σ l1 l2 q H locs ls h; exact nomatch h
    | succ j ih =>
      intro ca hj σ l1 l2 q H locs ls h hw hl K
      unfold f_X1_choose_L4 at h
      have J26 : ∀ (ca : Nat → Nat) (hj : cd_inj ad ca) (σ : cd_S) (l2 : Int32) (t0 : Int32) (t1 : Int32) (H : Heap) (locs : List Loc) (ls : Array Slot), f_X1_choose_J26 n (f_X1_choose_L4 n j) σ l2 t0 t1 = some q → hp_w D vwCl (hp_Tl cA) E (hp_A (cd_pic cA ad ca0 σ0) sz) ss H locs (cd_pic cA ad ca σ) → lv_has ls 4 [(0, .ref (ad 1 0)), (2, .int l2)] → W pp l ee ({ frames := 3, cells := 0, slots := 0, locals := 64 }) ss mm [.ref (ad 1 0)].toArray bb mt cd H locs 0 0 (MQ bb (hp_Qi D vwCl (hp_Tl cA) sz (cd_pic cA ad ca0 σ0) (fun r u => r = p.1 ∧ ∃ ca1, cd_inj ad ca1 ∧ u = cd_pic cA ad ca1 p.2)) [.ref (ad 1 0)].toArray ss 0 0 (hp_A (cd_pic cA ad ca0 σ0) sz)) (F0 mm 26 ls [.int t0, .int t1]) := by
        intro ca hj σ l2 t0 t1 H locs ls h hw hl
        refine lv_iadd cx.1 cx.2.1 dX1_choose_26 ?_
        refine lv_istore_n (lv' := [(1, .int (t1 + t0)), (0, .ref (ad 1 0)), (2, .int l2)]) cx.1 cx.2.1 dX1_choose_27 rfl hl (by decide) rfl (fun ls hl => ?_)
        refine lv_iinc (v := (l2 + 1)) (lv' := [(2, .int (l2 + 1)), (1, .int (t1 + t0)), (0, .ref (ad 1 0))]) cx.1 cx.2.1 dX1_choose_28 hl (k := 2) rfl rfl (by decide) rfl (fun ls hl => ?_)
        refine lv_goto (tgt := 4) cx.1 cx.2.1 dX1_choose_31 (by decide) ?_
        exact ih _ hj σ ((t1 + t0)) ((l2 + 1)) q _ _ _ h hw (lv_sub hl [2, 1, 0] rfl) K
      refine lv_iload_n cx.1 cx.2.1 dX1_choose_4 rfl (lv_at hl 2 rfl) ?_
      refine lv_aload_n cx.1 cx.2.1 dX1_choose_5 rfl (lv_at hl 0 rfl) ?_
      refine cd_gI (o := 1) (k := 8) (f := 40) hj cx hw hic1 rfl ⟨by decide, rfl, by decide, rfl⟩ rfl (by decide) (List.mem_cons_of_mem _ cm_153) dX1_choose_6 ?_
      refine lv_icmp_ge (tgt := 34) cx.1 cx.2.1 dX1_choose_9 (by decide) (fun c9 => ?_) (fun c9 => ?_)
      · have h := md_ip c9 h
        obtain rfl := Option.some.inj h
        exact K _ hj _ _ _ hw (lv_sub hl [0, 1] rfl)
      · have h := md_in c9 h
        refine lv_iload_n cx.1 cx.2.1 dX1_choose_12 rfl (lv_at hl 1 rfl) ?_
        refine lv_aload_n cx.1 cx.2.1 dX1_choose_13 rfl (lv_at hl 0 rfl) ?_
        refine lv_iload_n cx.1 cx.2.1 dX1_choose_14 rfl (lv_at hl 2 rfl) ?_
        obtain ⟨p4, e_p4, h⟩ := md_ob h
        refine hp_callVi (As := [.int l2]) (rest := [.int l1]) cx hw (kc_X1_canGoOn l D cA E _ ad _ hj oq sgq sgv hE n σ l2 p4 e_p4) (cwV 1 cx.2.2.2.2.2.1 (cd_giV cm_229 cm_230 cm_231 cm_130 cm_232) rfl rfl rfl hdc_X1_canGoOn ⟨Nat.le_of_ble_eq_true rfl, Nat.le_of_ble_eq_true rfl⟩) (cd_atO hj (by decide) (by decide)) rfl rfl hl.1 rfl (Nat.le_of_ble_eq_true rfl) dX1_choose_15 ⟨Nat.le_refl _, Nat.le_refl _⟩ (fun r u H locs hp hw => ?_)
        obtain ⟨rfl, ca, hj, rfl⟩ := hp
        refine lv_if_eq (tgt := 25) cx.1 cx.2.1 dX1_choose_18 (by decide) (fun c18 => ?_) (fun c18 => ?_)
        · have h := md_ip c18 h
          refine lv_iconst (v := 0) cx.1 cx.2.1 dX1_choose_25 (by decide) ?_
          exact J26 _ hj p4.2 l2 0 l1 _ _ _ h hw (lv_sub hl [0, 2] rfl)
        · have h := md_in c18 h
          refine lv_iconst (v := 1) cx.1 cx.2.1 dX1_choose_21 (by decide) ?_
          refine lv_goto (tgt := 26) cx.1 cx.2.1 dX1_choose_22 (by decide) ?_
          exact J26 _ hj p4.2 l2 1 l1 _ _ _ h hw (lv_sub hl [0, 2] rfl)
  obtain ⟨q5, e_q5, h⟩ := md_ob h
  refine L4 n _ hj σ0 0 0 q5 _ _ _ e_q5 hw (lv_sub hl [2, 1, 0] rfl) (fun ca hj H locs ls hw hl => ?_)
  refine lv_iload_n cx.1 cx.2.1 dX1_choose_34 rfl (lv_at hl 1 rfl) ?_
  refine lv_if_ne (tgt := 40) cx.1 cx.2.1 dX1_choose_35 (by decide) (fun c35 => ?_) (fun c35 => ?_)
  · have h := md_in c35 h
    refine lv_iconst (v := 0) cx.1 cx.2.1 dX1_choose_40 (by decide) ?_
    refine lv_istore_n (lv' := [(2, .int 0), (0, .ref (ad 1 0)), (1, .int q5.2.1)]) cx.1 cx.2.1 dX1_choose_41 rfl hl (by decide) rfl (fun ls hl => ?_)
    refine lv_aload_n cx.1 cx.2.1 dX1_choose_42 rfl (lv_at hl 1 rfl) ?_
    refine cd_gI (o := 1) (k := 15) (f := 47) hj cx hw hic1 rfl ⟨by decide, rfl, by decide, rfl⟩ rfl (by decide) (List.mem_cons_of_mem _ cm_199) dX1_choose_43 ?_
    refine lv_if_eq (tgt := 74) cx.1 cx.2.1 dX1_choose_46 (by decide) (fun c46 => ?_) (fun c46 => ?_)
    · have h := md_ip c46 h
      exact J74 _ hj q5.1 0 _ _ _ h hw (lv_sub hl [1, 0] rfl)
    · have h := md_in c46 h
      refine lv_aload_n cx.1 cx.2.1 dX1_choose_49 rfl (lv_at hl 1 rfl) ?_
      refine lv_aload_n cx.1 cx.2.1 dX1_choose_50 rfl (lv_at hl 1 rfl) ?_
      refine cd_gI (o := 1) (k := 16) (f := 48) hj cx hw hic1 rfl ⟨by decide, rfl, by decide, rfl⟩ rfl (by decide) (List.mem_cons_of_mem _ cm_200) dX1_choose_51 ?_
      refine lv_ldc cx.1 cx.2.1 cx.2.2.2.2.1 (cx.2.2.2.2.2.1 _ (List.mem_cons_of_mem _ cm_233)) dX1_choose_54 ?_
      refine lv_imul cx.1 cx.2.1 dX1_choose_56 ?_
      refine lv_sipush (v := 12345) cx.1 cx.2.1 dX1_choose_57 (by decide) ?_
      refine lv_iadd cx.1 cx.2.1 dX1_choose_60 ?_
      obtain ⟨σ6, e_σ6, h⟩ := md_ob h
      refine cd_pI (o := 1) (k := 16) (f := 48) hj cx hw hic1 rfl ⟨by decide, rfl, by decide, rfl⟩ tyX1_ok nmX1 rfl (by decide) rfl (List.mem_cons_of_mem _ cm_200) rfl e_σ6 dX1_choose_61 (fun H locs hw => ?_)
      refine lv_aload_n cx.1 cx.2.1 dX1_choose_64 rfl (lv_at hl 1 rfl) ?_
      refine cd_gI (o := 1) (k := 16) (f := 48) hj cx hw hic1 rfl ⟨by decide, rfl, by decide, rfl⟩ rfl (by decide) (List.mem_cons_of_mem _ cm_200) dX1_choose_65 ?_
      refine lv_bipush (v := 16) cx.1 cx.2.1 dX1_choose_68 (by decide) ?_
      refine lv_iushr (v := (((cI σ6 48 0).toUInt32 >>> ((16 : Int32).toUInt32 &&& Int32.toUInt32 31)).toInt32)) cx.1 cx.2.1 dX1_choose_70 rfl ?_
      refine lv_iload_n cx.1 cx.2.1 dX1_choose_71 rfl (lv_at hl 2 rfl) ?_
      obtain ⟨z7, e_z7, h⟩ := md_ob h
      refine lv_irem cx.1 cx.2.1 dX1_choose_72 (md_nzs e_z7) ?_
      refine lv_istore_n (lv' := [(2, .int (((((cI σ6 48 0).toUInt32 >>> ((16 : Int32).toUInt32 &&& Int32.toUInt32 31)).toInt32)) - ((((cI σ6 48 0).toUInt32 >>> ((16 : Int32).toUInt32 &&& Int32.toUInt32 31)).toInt32)) / (q5.2.1) * (q5.2.1))), (0, .ref (ad 1 0)), (1, .int q5.2.1)]) cx.1 cx.2.1 dX1_choose_73 rfl hl (by decide) rfl (fun ls hl => ?_)
      exact J74 _ hj σ6 ((((((cI σ6 48 0).toUInt32 >>> ((16 : Int32).toUInt32 &&& Int32.toUInt32 31)).toInt32)) - ((((cI σ6 48 0).toUInt32 >>> ((16 : Int32).toUInt32 &&& Int32.toUInt32 31)).toInt32)) / (q5.2.1) * (q5.2.1))) _ _ _ h hw (lv_sub hl [1, 0] rfl)
  · have h := md_ip c35 h
    refine lv_iconst (v := (-1)) cx.1 cx.2.1 dX1_choose_38 (by decide) ?_
    exact hp_iret cx hw (cd_ret hj h) dX1_choose_39
