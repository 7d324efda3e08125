set_option maxHeartbeats 4000000 in
set_option maxRecDepth 100000 in
theorem kc_X10_begin (l : Launch) (D : va_G) (cA : Nat → ClassId) (E : hp_N) (sz : Nat) (ad : Nat → Nat → Nat) (ca0 : Nat → Nat) (hj : cd_inj ad ca0) (oq sgq sgv : Nat) (hE : cd_E E oq sgq sgv) (n : Nat) (σ0 : cd_S) (b0 : cd_B) (a2 : Int32) (a3 : Int32) (p : (Int32 × cd_S × cd_B)) (h : f_X10_begin n σ0 b0 a2 a3 = some p) : (p.2.2.1 ≤ b0.1 ∧ p.2.2.2 ≤ b0.2) ∧ Met l yX10_begin (Cond.code yX10_begin cX10_begin 6 none :: v_CLS) ({ frames := 7, cells := b0.1 - p.2.2.1, slots := b0.2 - p.2.2.2, locals := 225 }) (hp_Pc D vwCl (hp_Tl cA) E sz (cd_pic cA ad ca0 σ0) [.ref (ad 10 0), .ref (ad 452 0), .int a2, .int a3]) (hp_Qv D vwCl (hp_Tl cA) sz (cd_pic cA ad ca0 σ0) (fun u => ∃ ca1, cd_inj ad ca1 ∧ u = cd_pic cA ad ca1 p.2.1)) (b0.1 - p.2.2.1) (b0.2 - p.2.2.2) (hp_A (cd_pic cA ad ca0 σ0) sz) := by
  obtain ⟨hm0, hn0, h⟩ := cd_cks h
  have hM0 : p.2.2.1 ≤ b0.1 ∧ p.2.2.2 ≤ b0.2 := ⟨hm0, hn0⟩
  refine ⟨hM0, ?_⟩
  refine hp_ofW (cc := cX10_begin) (maxL := 6) (ret := none) (by decide) rfl (Nat.le_of_ble_eq_true rfl) ?_
  intro pp ee ss mm bb mt cd ls cx hsz hw hl
  have hl : lv_has ls 6 [(0, .ref (ad 10 0)), (1, .ref (ad 452 0)), (2, .int a2), (3, .int a3)] := hl
  refine W.widen (k := b0.1 - b0.1) (n := b0.2 - b0.2) (Nat.zero_le _) (Nat.zero_le _) ?_
  refine lv_aload_n cx.1 cx.2.1 dX10_begin_0 rfl (lv_at hl 0 rfl) ?_
  refine lv_aload_n cx.1 cx.2.1 dX10_begin_1 rfl (lv_at hl 1 rfl) ?_
  obtain ⟨σ1, e_σ1, h⟩ := md_ob h
  refine cd_pT (o := 10) (k := 3) (f := 323) hj cx hw hic10 rfl ⟨by decide, rfl, by decide, rfl⟩ tyX10_ok nmX10 rfl (by decide) rfl (List.mem_cons_of_mem _ cm_1036) rfl e_σ1 dX10_begin_2 (fun H locs hw => ?_)
  refine lv_aload_n cx.1 cx.2.1 dX10_begin_5 rfl (lv_at hl 0 rfl) ?_
  refine lv_iload_n cx.1 cx.2.1 dX10_begin_6 rfl (lv_at hl 2 rfl) ?_
  obtain ⟨σ2, e_σ2, h⟩ := md_ob h
  refine cd_pI (o := 10) (k := 4) (f := 324) hj cx hw hic10 rfl ⟨by decide, rfl, by decide, rfl⟩ tyX10_ok nmX10 rfl (by decide) rfl (List.mem_cons_of_mem _ cm_1035) rfl e_σ2 dX10_begin_7 (fun H locs hw => ?_)
  refine lv_aload_n cx.1 cx.2.1 dX10_begin_10 rfl (lv_at hl 0 rfl) ?_
  refine lv_iload_n cx.1 cx.2.1 dX10_begin_11 rfl (lv_at hl 3 rfl) ?_
  obtain ⟨σ3, e_σ3, h⟩ := md_ob h
  refine cd_pI (o := 10) (k := 5) (f := 325) hj cx hw hic10 rfl ⟨by decide, rfl, by decide, rfl⟩ tyX10_ok nmX10 rfl (by decide) rfl (List.mem_cons_of_mem _ cm_1066) rfl e_σ3 dX10_begin_12 (fun H locs hw => ?_)
  refine lv_aload_n cx.1 cx.2.1 dX10_begin_15 rfl (lv_at hl 0 rfl) ?_
  refine lv_iconst (v := 0) cx.1 cx.2.1 dX10_begin_16 (by decide) ?_
  obtain ⟨σ4, e_σ4, h⟩ := md_ob h
  refine cd_pI (o := 10) (k := 6) (f := 326) hj cx hw hic10 rfl ⟨by decide, rfl, by decide, rfl⟩ tyX10_ok nmX10 rfl (by decide) rfl (List.mem_cons_of_mem _ cm_1047) rfl e_σ4 dX10_begin_17 (fun H locs hw => ?_)
  refine lv_aload_n cx.1 cx.2.1 dX10_begin_20 rfl (lv_at hl 0 rfl) ?_
  refine lv_iconst (v := 0) cx.1 cx.2.1 dX10_begin_21 (by decide) ?_
  obtain ⟨σ5, e_σ5, h⟩ := md_ob h
  refine cd_pI (o := 10) (k := 7) (f := 327) hj cx hw hic10 rfl ⟨by decide, rfl, by decide, rfl⟩ tyX10_ok nmX10 rfl (by decide) rfl (List.mem_cons_of_mem _ cm_650) rfl e_σ5 dX10_begin_22 (fun H locs hw => ?_)
  refine lv_aload_n cx.1 cx.2.1 dX10_begin_25 rfl (lv_at hl 0 rfl) ?_
  refine cd_gO (o2 := 6) (e2 := 0) (o := 10) (k := 1) (f := 321) hj cx hw hic10 rfl ⟨by decide, rfl, by decide, rfl⟩ rfl (by decide) ⟨rfl, rfl⟩ (List.mem_cons_of_mem _ cm_649) dX10_begin_26 ?_
  refine lv_iconst (v := 0) cx.1 cx.2.1 dX10_begin_29 (by decide) ?_
  obtain ⟨p6, e_p6, h⟩ := md_ob h
  refine hp_callVv (As := [.int 0]) (rest := []) cx hw (kc_X6_cut l D cA E _ ad _ hj oq sgq sgv hE n σ5 0 (0 : Int32) (by decide) p6 e_p6) (cwV 1 cx.2.2.2.2.2.1 (cd_giV cm_1093 cm_3 cm_4 cm_5 cm_6) rfl rfl rfl hdc_X6_cut ⟨Nat.le_of_ble_eq_true rfl, Nat.le_of_ble_eq_true rfl⟩) (cd_atO hj (by decide) (by decide)) rfl rfl hl.1 rfl (Nat.le_of_ble_eq_true rfl) dX10_begin_30 ⟨by (try dsimp only); omega, by (try dsimp only); omega⟩ (fun u H locs hp hw => ?_)
  obtain ⟨ca, hj, rfl⟩ := hp
  refine lv_aload_n cx.1 cx.2.1 dX10_begin_33 rfl (lv_at hl 0 rfl) ?_
  refine cd_gO (o2 := 6) (e2 := 1) (o := 10) (k := 2) (f := 322) hj cx hw hic10 rfl ⟨by decide, rfl, by decide, rfl⟩ rfl (by decide) ⟨rfl, rfl⟩ (List.mem_cons_of_mem _ cm_675) dX10_begin_34 ?_
  refine lv_iconst (v := 0) cx.1 cx.2.1 dX10_begin_37 (by decide) ?_
  obtain ⟨p7, e_p7, h⟩ := md_ob h
  refine hp_callVv (As := [.int 0]) (rest := []) cx hw (kc_X6_cut l D cA E _ ad _ hj oq sgq sgv hE n p6.2 1 (0 : Int32) (by decide) p7 e_p7) (cwV 1 cx.2.2.2.2.2.1 (cd_giV cm_1093 cm_3 cm_4 cm_5 cm_6) rfl rfl rfl hdc_X6_cut ⟨Nat.le_of_ble_eq_true rfl, Nat.le_of_ble_eq_true rfl⟩) (cd_atO hj (by decide) (by decide)) rfl rfl hl.1 rfl (Nat.le_of_ble_eq_true rfl) dX10_begin_38 ⟨by (try dsimp only); omega, by (try dsimp only); omega⟩ (fun u H locs hp hw => ?_)
  obtain ⟨ca, hj, rfl⟩ := hp
  refine lv_iconst (v := 1) cx.1 cx.2.1 dX10_begin_41 (by decide) ?_
  refine lv_istore (lv' := [(4, .int 1), (0, .ref (ad 10 0)), (1, .ref (ad 452 0)), (2, .int a2), (3, .int a3)]) cx.1 cx.2.1 dX10_begin_42 hl (by decide) rfl (fun ls hl => ?_)
  refine lv_iconst (v := 0) cx.1 cx.2.1 dX10_begin_44 (by decide) ?_
  refine lv_istore (lv' := [(5, .int 0), (4, .int 1), (0, .ref (ad 10 0)), (1, .ref (ad 452 0)), (2, .int a2), (3, .int a3)]) cx.1 cx.2.1 dX10_begin_45 hl (by decide) rfl (fun ls hl => ?_)
  have L47 : ∀ (j : Nat) (ca : Nat → Nat) (hj : cd_inj ad ca) (σ : cd_S) (b : cd_B) (l2 : Int32) (l4 : Int32) (l5 : Int32) (q : (cd_S × cd_B × Int32 × Int32)) (H : Heap) (locs : List Loc) (ls : Array Slot), b.1 ≤ b0.1 → b.2 ≤ b0.2 → p.2.2.1 ≤ b.1 → p.2.2.2 ≤ b.2 → p.2.2.1 ≤ q.2.1.1 → p.2.2.2 ≤ q.2.1.2 → f_X10_begin_L47 n l2 j σ b l4 l5 = some q → hp_w D vwCl (hp_Tl cA) E (hp_A (cd_pic cA ad ca0 σ0) sz) ss H locs (cd_pic cA ad ca σ) → lv_has ls 6 [(0, .ref (ad 10 0)), (2, .int l2), (4, .int l4), (5, .int l5)] → (∀ (ca : Nat → Nat) (hj : cd_inj ad ca) (H : Heap) (locs : List Loc) (ls : Array Slot), q.2.1.1 ≤ b0.1 → q.2.1.2 ≤ b0.2 → hp_w D vwCl (hp_Tl cA) E (hp_A (cd_pic cA ad ca0 σ0) sz) ss H locs (cd_pic cA ad ca q.1) → lv_has ls 6 [(0, .ref (ad 10 0))] → W pp l ee ({ frames := 7, cells := b0.1 - p.2.2.1, slots := b0.2 - p.2.2.2, locals := 225 }) ss mm [.ref (ad 10 0), .ref (ad 452 0), .int a2, .int a3].toArray bb mt cd H locs (b0.1 - q.2.1.1) (b0.2 - q.2.1.2) (MQ bb (hp_Qv D vwCl (hp_Tl cA) sz (cd_pic cA ad ca0 σ0) (fun u => ∃ ca1, cd_inj ad ca1 ∧ u = cd_pic cA ad ca1 p.2.1)) [.ref (ad 10 0), .ref (ad 452 0), .int a2, .int a3].toArray ss (b0.1 - p.2.2.1) (b0.2 - p.2.2.2) (hp_A (cd_pic cA ad ca0 σ0) sz)) (F0 mm 70 ls [])) → W pp l ee ({ frames := 7, cells := b0.1 - p.2.2.1, slots := b0.2 - p.2.2.2, locals := 225 }) ss mm [.ref (ad 10 0), .ref (ad 452 0), .int a2, .int a3].toArray bb mt cd H locs (b0.1 - b.1) (b0.2 - b.2) (MQ bb (hp_Qv D vwCl (hp_Tl cA) sz (cd_pic cA ad ca0 σ0) (fun u => ∃ ca1, cd_inj ad ca1 ∧ u = cd_pic cA ad ca1 p.2.1)) [.ref (ad 10 0), .ref (ad 452 0), .int a2, .int a3].toArray ss (b0.1 - p.2.2.1) (b0.2 - p.2.2.2) (hp_A (cd_pic cA ad ca0 σ0) sz)) (F0 mm 47 ls []) := by
    intro j
    induction j with
    | zero => intro ca hj σ b l2 l4 l5 q H locs ls hb1 hb2 hf1 hf2 hq1 hq2 h; exact nomatch h
    | succ j ih =>
      intro ca hj σ b l2 l4 l5 q H locs ls hb1 hb2 hf1 hf2 hq1 hq2 h hw hl K
      unfold f_X10_begin_L47 at h
      refine lv_iload cx.1 cx.2.1 dX10_begin_47 (lv_at hl 2 rfl) ?_
      refine lv_if_eq (tgt := 70) cx.1 cx.2.1 dX10_begin_49 (by decide) (fun c49 => ?_) (fun c49 => ?_)
      · have h := md_ip c49 h
        obtain rfl := Option.some.inj h
        exact K _ hj _ _ _ (by (try dsimp only); omega) (by (try dsimp only); omega) hw (lv_sub hl [0] rfl)
      · have h := md_in c49 h
        refine lv_iload cx.1 cx.2.1 dX10_begin_52 (lv_at hl 3 rfl) ?_
        refine lv_iload_n cx.1 cx.2.1 dX10_begin_54 rfl (lv_at hl 1 rfl) ?_
        refine lv_icmp_gt (tgt := 70) cx.1 cx.2.1 dX10_begin_55 (by decide) (fun c55 => ?_) (fun c55 => ?_)
        · have h := md_ip c55 h
          obtain rfl := Option.some.inj h
          exact K _ hj _ _ _ (by (try dsimp only); omega) (by (try dsimp only); omega) hw (lv_sub hl [0] rfl)
        · have h := md_in c55 h
          refine lv_aload_n cx.1 cx.2.1 dX10_begin_58 rfl (lv_at hl 0 rfl) ?_
          obtain ⟨p8, e_p8, h⟩ := md_ob h
          obtain ⟨hm9, hn9, h⟩ := cd_cks h
          have hM9 : p.2.2.1 ≤ p8.2.2.1 ∧ p.2.2.2 ≤ p8.2.2.2 := ⟨Nat.le_trans hq1 hm9, Nat.le_trans hq2 hn9⟩
          have hle8 := (kc_X10_findWord l D cA E sz ad _ hj oq sgq sgv hE n σ b  p8 e_p8).1
          refine hp_callVi (As := []) (rest := []) cx hw ((kc_X10_findWord l D cA E _ ad _ hj oq sgq sgv hE n σ b  p8 e_p8).2) (cwV 0 cx.2.2.2.2.2.1 (cd_giV cm_1094 cm_1095 cm_1096 cm_301 cm_1097) rfl rfl rfl hdc_X10_findWord ⟨Nat.le_of_ble_eq_true rfl, Nat.le_of_ble_eq_true rfl⟩) (cd_atO hj (by decide) (by decide)) rfl rfl hl.1 rfl (Nat.le_of_ble_eq_true rfl) dX10_begin_59 ⟨by (try dsimp only); omega, by (try dsimp only); omega⟩ (fun r u H locs hp hw => ?_)
          obtain ⟨rfl, ca, hj, rfl⟩ := hp
          refine W.widen (k := b0.1 - p8.2.2.1) (n := b0.2 - p8.2.2.2) (by omega) (by omega) ?_
          refine lv_istore (lv' := [(4, .int p8.1), (0, .ref (ad 10 0)), (2, .int l2), (5, .int l5)]) cx.1 cx.2.1 dX10_begin_62 hl (by decide) rfl (fun ls hl => ?_)
          refine lv_iinc (v := (l5 + 1)) (lv' := [(5, .int (l5 + 1)), (4, .int p8.1), (0, .ref (ad 10 0)), (2, .int l2)]) cx.1 cx.2.1 dX10_begin_64 hl (k := 3) rfl rfl (by decide) rfl (fun ls hl => ?_)
          refine lv_goto (tgt := 47) cx.1 cx.2.1 dX10_begin_67 (by decide) ?_
          exact ih _ hj p8.2.1 (p8.2.2) l2 (p8.1) ((l5 + 1)) q _ _ _ (by omega) (by omega) (by omega) (by omega) hq1 hq2 h hw (lv_sub hl [2, 3, 1, 0] rfl) K
  obtain ⟨q10, e_q10, h⟩ := md_ob h
  obtain ⟨hm11, hn11, h⟩ := cd_cks h
  have hM11 : p.2.2.1 ≤ q10.2.1.1 ∧ p.2.2.2 ≤ q10.2.1.2 := ⟨hm11, hn11⟩
  refine L47 n _ hj p7.2 b0 a2 1 0 q10 _ _ _ (by omega) (by omega) (by omega) (by omega) hM11.1 hM11.2 e_q10 hw (lv_sub hl [2, 4, 1, 0] rfl) (fun ca hj H locs ls hb1 hb2 hw hl => ?_)
  refine lv_aload_n cx.1 cx.2.1 dX10_begin_70 rfl (lv_at hl 0 rfl) ?_
  obtain ⟨p12, e_p12, h⟩ := md_ob h
  refine hp_callVv (As := []) (rest := []) cx hw (kc_X10_advance l D cA E _ ad _ hj oq sgq sgv hE n q10.1  p12 e_p12) (cwV 0 cx.2.2.2.2.2.1 (cd_giV cm_1098 cm_671 cm_672 cm_301 cm_673) rfl rfl rfl hdc_X10_advance ⟨Nat.le_of_ble_eq_true rfl, Nat.le_of_ble_eq_true rfl⟩) (cd_atO hj (by decide) (by decide)) rfl rfl hl.1 rfl (Nat.le_of_ble_eq_true rfl) dX10_begin_71 ⟨by (try dsimp only); omega, by (try dsimp only); omega⟩ (fun u H locs hp hw => ?_)
  obtain ⟨ca, hj, rfl⟩ := hp
  exact hp_vret cx hw ((cd_retb hj h).2) dX10_begin_74 (cd_le1 h) (cd_le2 h)
set_option maxHeartbeats 4000000 in
set_option maxRecDepth 100000 in
theorem kc_X11_putBytes (l : Launch) (D : va_G) (cA : Nat → ClassId) (E : hp_N) (sz : Nat) (ad : Nat → Nat → Nat) (ca0 : Nat → Nat) (hj : cd_inj ad ca0) (oq sgq sgv : Nat) (hE : cd_E E oq sgq sgv) (n : Nat) (σ0 : cd_S) (a1 : Int32) (p : (Int32 × cd_S)) (h : f_X11_putBytes n σ0 a1 = some p) : Met l yX11_putBytes (Cond.code yX11_putBytes cX11_putBytes 3 none :: v_CLS) ({ frames := 0, cells := 0, slots := 0, locals := 0 }) (hp_Pc D vwCl (hp_Tl cA) E sz (cd_pic cA ad ca0 σ0) [.ref (ad 11 0), .int a1]) (hp_Qv D vwCl (hp_Tl cA) sz (cd_pic cA ad ca0 σ0) (fun u => ∃ ca1, cd_inj ad ca1 ∧ u = cd_pic cA ad ca1 p.2)) 0 0 (hp_A (cd_pic cA ad ca0 σ0) sz) := by
  refine hp_ofW (cc := cX11_putBytes) (maxL := 3) (ret := none) (by decide) rfl (Nat.le_of_ble_eq_true rfl) ?_
  intro pp ee ss mm bb mt cd ls cx hsz hw hl
  have hl : lv_has ls 3 [(0, .ref (ad 11 0)), (1, .int a1)] := hl
  refine lv_bipush (v := 24) cx.1 cx.2.1 dX11_putBytes_0 (by decide) ?_
  refine lv_istore_n (lv' := [(2, .int 24), (0, .ref (ad 11 0)), (1, .int a1)]) cx.1 cx.2.1 dX11_putBytes_2 rfl hl (by decide) rfl (fun ls hl => ?_)
  have L3 : ∀ (j : Nat) (ca : Nat → Nat) (hj : cd_inj ad ca) (σ : cd_S) (l1 : Int32) (l2 : Int32) (q : (cd_S × Int32)) (H : Heap) (locs : List Loc) (ls : Array Slot), f_X11_putBytes_L3 n l1 j σ l2 = some q → hp_w D vwCl (hp_Tl cA) E (hp_A (cd_pic cA ad ca0 σ0) sz) ss H locs (cd_pic cA ad ca σ) → lv_has ls 3 [(0, .ref (ad 11 0)), (1, .int l1), (2, .int l2)] → (∀ (ca : Nat → Nat) (hj : cd_inj ad ca) (H : Heap) (locs : List Loc) (ls : Array Slot), hp_w D vwCl (hp_Tl cA) E (hp_A (cd_pic cA ad ca0 σ0) sz) ss H locs (cd_pic cA ad ca q.1) → lv_has ls 3 [] → W pp l ee ({ frames := 0, cells := 0, slots := 0, locals := 0 }) ss mm [.ref (ad 11 0), .int a1].toArray bb mt cd H locs 0 0 (MQ bb (hp_Qv D vwCl (hp_Tl cA) sz (cd_pic cA ad ca0 σ0) (fun u => ∃ ca1, cd_inj ad ca1 ∧ u = cd_pic cA ad ca1 p.2)) [.ref (ad 11 0), .int a1].toArray ss 0 0 (hp_A (cd_pic cA ad ca0 σ0) sz)) (F0 mm 46 ls [])) → W pp l ee ({ frames := 0, cells := 0, slots := 0, locals := 0 }) ss mm [.ref (ad 11 0), .int a1].toArray bb mt cd H locs 0 0 (MQ bb (hp_Qv D vwCl (hp_Tl cA) sz (cd_pic cA ad ca0 σ0) (fun u => ∃ ca1, cd_inj ad ca1 ∧ u = cd_pic cA ad ca1 p.2)) [.ref (ad 11 0), .int a1].toArray ss 0 0 (hp_A (cd_pic cA ad ca0 σ0) sz)) (F0 mm 3 ls []) := by
    intro j
    induction j with
    | zero => intro ca hj σ l1 l2 q H locs ls h; exact nomatch h
    | succ j ih =>
      intro ca hj σ l1 l2 q H locs ls h hw hl K
      unfold f_X11_putBytes_L3 at h
      refine lv_iload_n cx.1 cx.2.1 dX11_putBytes_3 rfl (lv_at hl 2 rfl) ?_
      refine lv_if_lt (tgt := 46) cx.1 cx.2.1 dX11_putBytes_4 (by decide) (fun c4 => ?_) (fun c4 => ?_)
      · have h := md_ip c4 h
        obtain rfl := Option.some.inj h
        exact K _ hj _ _ _ hw (lv_sub hl [] rfl)
      · have h := md_in c4 h
        refine lv_aload_n cx.1 cx.2.1 dX11_putBytes_7 rfl (lv_at hl 0 rfl) ?_
        refine cd_gI (o := 11) (k := 1) (f := 353) hj cx hw hic11 rfl ⟨by decide, rfl, by decide, rfl⟩ rfl (by decide) (List.mem_cons_of_mem _ cm_1099) dX11_putBytes_8 ?_
        refine lv_sipush (v := 3000) cx.1 cx.2.1 dX11_putBytes_11 (by decide) ?_
        refine lv_icmp_ge (tgt := 46) cx.1 cx.2.1 dX11_putBytes_14 (by decide) (fun c14 => ?_) (fun c14 => ?_)
        · have h := md_ip c14 h
          obtain rfl := Option.some.inj h
          exact K _ hj _ _ _ hw (lv_sub hl [] rfl)
        · have h := md_in c14 h
          refine lv_aload_n cx.1 cx.2.1 dX11_putBytes_17 rfl (lv_at hl 0 rfl) ?_
          refine cd_gA (o := 11) (k := 0) (f := 352) hj cx hw hic11 rfl ⟨by decide, rfl, by decide, rfl⟩ rfl (by decide) (List.mem_cons_of_mem _ cm_1100) dX11_putBytes_18 ?_
          refine lv_aload_n cx.1 cx.2.1 dX11_putBytes_21 rfl (lv_at hl 0 rfl) ?_
          refine cd_gI (o := 11) (k := 1) (f := 353) hj cx hw hic11 rfl ⟨by decide, rfl, by decide, rfl⟩ rfl (by decide) (List.mem_cons_of_mem _ cm_1099) dX11_putBytes_22 ?_
          refine lv_iload_n cx.1 cx.2.1 dX11_putBytes_25 rfl (lv_at hl 1 rfl) ?_
          refine lv_iload_n cx.1 cx.2.1 dX11_putBytes_26 rfl (lv_at hl 2 rfl) ?_
          refine lv_iushr (v := ((l1.toUInt32 >>> (l2.toUInt32 &&& Int32.toUInt32 31)).toInt32)) cx.1 cx.2.1 dX11_putBytes_27 rfl ?_
          refine lv_i2b (v := (((l1.toUInt32 >>> (l2.toUInt32 &&& Int32.toUInt32 31)).toInt32).toInt8.toInt32)) cx.1 cx.2.1 dX11_putBytes_28 rfl ?_
          obtain ⟨σ1, e_σ1, h⟩ := md_ob h
          refine cd_sB (f := 352) hj cx hw (by decide) (by decide) rfl e_σ1 dX11_putBytes_29 (fun H locs hw => ?_)
          refine lv_aload_n cx.1 cx.2.1 dX11_putBytes_30 rfl (lv_at hl 0 rfl) ?_
          refine lv_dup cx.1 cx.2.1 dX11_putBytes_31 rfl ?_
          refine cd_gI (o := 11) (k := 1) (f := 353) hj cx hw hic11 rfl ⟨by decide, rfl, by decide, rfl⟩ rfl (by decide) (List.mem_cons_of_mem _ cm_1099) dX11_putBytes_32 ?_
          refine lv_iconst (v := 1) cx.1 cx.2.1 dX11_putBytes_35 (by decide) ?_
          refine lv_iadd cx.1 cx.2.1 dX11_putBytes_36 ?_
          obtain ⟨σ2, e_σ2, h⟩ := md_ob h
          refine cd_pI (o := 11) (k := 1) (f := 353) hj cx hw hic11 rfl ⟨by decide, rfl, by decide, rfl⟩ tyX11_ok nmX11 rfl (by decide) rfl (List.mem_cons_of_mem _ cm_1099) rfl e_σ2 dX11_putBytes_37 (fun H locs hw => ?_)
          refine lv_iinc (v := (l2 + (-8))) (lv' := [(2, .int (l2 + (-8))), (0, .ref (ad 11 0)), (1, .int l1)]) cx.1 cx.2.1 dX11_putBytes_40 hl (k := 2) rfl rfl (by decide) rfl (fun ls hl => ?_)
          refine lv_goto (tgt := 3) cx.1 cx.2.1 dX11_putBytes_43 (by decide) ?_
          exact ih _ hj σ2 l1 ((l2 + (-8))) q _ _ _ h hw (lv_sub hl [1, 2, 0] rfl) K
  obtain ⟨q3, e_q3, h⟩ := md_ob h
  refine L3 n _ hj σ0 a1 24 q3 _ _ _ e_q3 hw (lv_sub hl [1, 2, 0] rfl) (fun ca hj H locs ls hw hl => ?_)
  exact hp_vret cx hw ((cd_ret hj h).2) dX11_putBytes_46
set_option maxHeartbeats 4000000 in
set_option maxRecDepth 100000 in
theorem kc_X11_feed (l : Launch) (D : va_G) (cA : Nat → ClassId) (E : hp_N) (sz : Nat) (ad : Nat → Nat → Nat) (ca0 : Nat → Nat) (hj : cd_inj ad ca0) (oq sgq sgv : Nat) (hE : cd_E E oq sgq sgv) (n : Nat) (σ0 : cd_S) (a1 : Int32) (a2 : Int32) (a3 : Int32) (a4 : Int32) (a5 : Int32) (p : (Int32 × cd_S)) (h : f_X11_feed n σ0 a1 a2 a3 a4 a5 = some p) : Met l yX11_feed (Cond.code yX11_feed cX11_feed 6 (some .boolean) :: v_CLS) ({ frames := 1, cells := 0, slots := 0, locals := 22 }) (hp_Pc D vwCl (hp_Tl cA) E sz (cd_pic cA ad ca0 σ0) [.ref (ad 11 0), .int a1, .int a2, .int a3, .int a4, .int a5]) (hp_Qi D vwCl (hp_Tl cA) sz (cd_pic cA ad ca0 σ0) (fun r u => r = p.1 ∧ ∃ ca1, cd_inj ad ca1 ∧ u = cd_pic cA ad ca1 p.2)) 0 0 (hp_A (cd_pic cA ad ca0 σ0) sz) := by
  refine hp_ofW (cc := cX11_feed) (maxL := 6) (ret := (some .boolean)) (by decide) rfl (Nat.le_of_ble_eq_true rfl) ?_
  intro pp ee ss mm bb mt cd ls cx hsz hw hl
  have hl : lv_has ls 6 [(0, .ref (ad 11 0)), (1, .int a1), (2, .int a2), (3, .int a3), (4, .int a4), (5, .int a5)] := hl
  refine lv_aload_n cx.1 cx.2.1 dX11_feed_0 rfl (lv_at hl 0 rfl) ?_
  refine cd_gI (o := 11) (k := 1) (f := 353) hj cx hw hic11 rfl ⟨by decide, rfl, by decide, rfl⟩ rfl (by decide) (List.mem_cons_of_mem _ cm_1099) dX11_feed_1 ?_
  refine lv_sipush (v := 2980) cx.1 cx.2.1 dX11_feed_4 (by decide) ?_
  refine lv_icmp_le (tgt := 12) cx.1 cx.2.1 dX11_feed_7 (by decide) (fun c7 => ?_) (fun c7 => ?_)
  · have h := md_ip c7 h
    refine lv_aload_n cx.1 cx.2.1 dX11_feed_12 rfl (lv_at hl 0 rfl) ?_
    refine lv_iload_n cx.1 cx.2.1 dX11_feed_13 rfl (lv_at hl 1 rfl) ?_
    obtain ⟨p1, e_p1, h⟩ := md_ob h
    refine hp_callVv (As := [.int a1]) (rest := []) cx hw (kc_X11_putBytes l D cA E _ ad _ hj oq sgq sgv hE n σ0 a1 p1 e_p1) (cwV 1 cx.2.2.2.2.2.1 (cd_giV cm_1101 cm_1102 cm_1103 cm_1104 cm_1105) rfl rfl rfl hdc_X11_putBytes ⟨Nat.le_of_ble_eq_true rfl, Nat.le_of_ble_eq_true rfl⟩) (cd_atO hj (by decide) (by decide)) rfl rfl hl.1 rfl (Nat.le_of_ble_eq_true rfl) dX11_feed_14 ⟨Nat.le_refl _, Nat.le_refl _⟩ (fun u H locs hp hw => ?_)
    obtain ⟨ca, hj, rfl⟩ := hp
    refine lv_aload_n cx.1 cx.2.1 dX11_feed_17 rfl (lv_at hl 0 rfl) ?_
    refine lv_iload_n cx.1 cx.2.1 dX11_feed_18 rfl (lv_at hl 2 rfl) ?_
    obtain ⟨p2, e_p2, h⟩ := md_ob h
    refine hp_callVv (As := [.int a2]) (rest := []) cx hw (kc_X11_putBytes l D cA E _ ad _ hj oq sgq sgv hE n p1.2 a2 p2 e_p2) (cwV 1 cx.2.2.2.2.2.1 (cd_giV cm_1101 cm_1102 cm_1103 cm_1104 cm_1105) rfl rfl rfl hdc_X11_putBytes ⟨Nat.le_of_ble_eq_true rfl, Nat.le_of_ble_eq_true rfl⟩) (cd_atO hj (by decide) (by decide)) rfl rfl hl.1 rfl (Nat.le_of_ble_eq_true rfl) dX11_feed_19 ⟨Nat.le_refl _, Nat.le_refl _⟩ (fun u H locs hp hw => ?_)
    obtain ⟨ca, hj, rfl⟩ := hp
    refine lv_aload_n cx.1 cx.2.1 dX11_feed_22 rfl (lv_at hl 0 rfl) ?_
    refine lv_iload_n cx.1 cx.2.1 dX11_feed_23 rfl (lv_at hl 3 rfl) ?_
    obtain ⟨p3, e_p3, h⟩ := md_ob h
    refine hp_callVv (As := [.int a3]) (rest := []) cx hw (kc_X11_putBytes l D cA E _ ad _ hj oq sgq sgv hE n p2.2 a3 p3 e_p3) (cwV 1 cx.2.2.2.2.2.1 (cd_giV cm_1101 cm_1102 cm_1103 cm_1104 cm_1105) rfl rfl rfl hdc_X11_putBytes ⟨Nat.le_of_ble_eq_true rfl, Nat.le_of_ble_eq_true rfl⟩) (cd_atO hj (by decide) (by decide)) rfl rfl hl.1 rfl (Nat.le_of_ble_eq_true rfl) dX11_feed_24 ⟨Nat.le_refl _, Nat.le_refl _⟩ (fun u H locs hp hw => ?_)
    obtain ⟨ca, hj, rfl⟩ := hp
    refine lv_aload_n cx.1 cx.2.1 dX11_feed_27 rfl (lv_at hl 0 rfl) ?_
    refine lv_iload cx.1 cx.2.1 dX11_feed_28 (lv_at hl 4 rfl) ?_
    obtain ⟨p4, e_p4, h⟩ := md_ob h
    refine hp_callVv (As := [.int a4]) (rest := []) cx hw (kc_X11_putBytes l D cA E _ ad _ hj oq sgq sgv hE n p3.2 a4 p4 e_p4) (cwV 1 cx.2.2.2.2.2.1 (cd_giV cm_1101 cm_1102 cm_1103 cm_1104 cm_1105) rfl rfl rfl hdc_X11_putBytes ⟨Nat.le_of_ble_eq_true rfl, Nat.le_of_ble_eq_true rfl⟩) (cd_atO hj (by decide) (by decide)) rfl rfl hl.1 rfl (Nat.le_of_ble_eq_true rfl) dX11_feed_30 ⟨Nat.le_refl _, Nat.le_refl _⟩ (fun u H locs hp hw => ?_)
    obtain ⟨ca, hj, rfl⟩ := hp
    refine lv_aload_n cx.1 cx.2.1 dX11_feed_33 rfl (lv_at hl 0 rfl) ?_
    refine lv_iload cx.1 cx.2.1 dX11_feed_34 (lv_at hl 5 rfl) ?_
    obtain ⟨p5, e_p5, h⟩ := md_ob h
    refine hp_callVv (As := [.int a5]) (rest := []) cx hw (kc_X11_putBytes l D cA E _ ad _ hj oq sgq sgv hE n p4.2 a5 p5 e_p5) (cwV 1 cx.2.2.2.2.2.1 (cd_giV cm_1101 cm_1102 cm_1103 cm_1104 cm_1105) rfl rfl rfl hdc_X11_putBytes ⟨Nat.le_of_ble_eq_true rfl, Nat.le_of_ble_eq_true rfl⟩) (cd_atO hj (by decide) (by decide)) rfl rfl hl.1 rfl (Nat.le_of_ble_eq_true rfl) dX11_feed_36 ⟨Nat.le_refl _, Nat.le_refl _⟩ (fun u H locs hp hw => ?_)
    obtain ⟨ca, hj, rfl⟩ := hp
    refine lv_iconst (v := 1) cx.1 cx.2.1 dX11_feed_39 (by decide) ?_
    exact hp_zret cx hw (cd_ret hj h) (by decide) dX11_feed_40
  · have h := md_in c7 h
    refine lv_iconst (v := 0) cx.1 cx.2.1 dX11_feed_10 (by decide) ?_
    exact hp_zret cx hw (cd_ret hj h) (by decide) dX11_feed_11
set_option maxHeartbeats 4000000 in
set_option maxRecDepth 100000 in
theorem kc_X11_end (l : Launch) (D : va_G) (cA : Nat → ClassId) (E : hp_N) (sz : Nat) (ad : Nat → Nat → Nat) (ca0 : Nat → Nat) (hj : cd_inj ad ca0) (oq sgq sgv : Nat) (hE : cd_E E oq sgq sgv) (n : Nat) (σ0 : cd_S) (a1 : Int32) (p : (Int32 × cd_S)) (h : f_X11_end n σ0 a1 = some p) : Met l yX11_end (Cond.code yX11_end cX11_end 2 (some .boolean) :: v_CLS) ({ frames := 0, cells := 0, slots := 0, locals := 0 }) (hp_Pc D vwCl (hp_Tl cA) E sz (cd_pic cA ad ca0 σ0) [.ref (ad 11 0), .int a1]) (hp_Qi D vwCl (hp_Tl cA) sz (cd_pic cA ad ca0 σ0) (fun r u => r = p.1 ∧ ∃ ca1, cd_inj ad ca1 ∧ u = cd_pic cA ad ca1 p.2)) 0 0 (hp_A (cd_pic cA ad ca0 σ0) sz) := by
  refine hp_ofW (cc := cX11_end) (maxL := 2) (ret := (some .boolean)) (by decide) rfl (Nat.le_of_ble_eq_true rfl) ?_
  intro pp ee ss mm bb mt cd ls cx hsz hw hl
  have hl : lv_has ls 2 [(0, .ref (ad 11 0)), (1, .int a1)] := hl
  refine lv_iload_n cx.1 cx.2.1 dX11_end_0 rfl (lv_at hl 1 rfl) ?_
  refine lv_if_lt (tgt := 12) cx.1 cx.2.1 dX11_end_1 (by decide) (fun c1 => ?_) (fun c1 => ?_)
  · have h := md_ip c1 h
    refine lv_iconst (v := 0) cx.1 cx.2.1 dX11_end_12 (by decide) ?_
    exact hp_zret cx hw (cd_ret hj h) (by decide) dX11_end_13
  · have h := md_in c1 h
    refine lv_iload_n cx.1 cx.2.1 dX11_end_4 rfl (lv_at hl 1 rfl) ?_
    refine lv_aload_n cx.1 cx.2.1 dX11_end_5 rfl (lv_at hl 0 rfl) ?_
    refine cd_gI (o := 11) (k := 1) (f := 353) hj cx hw hic11 rfl ⟨by decide, rfl, by decide, rfl⟩ rfl (by decide) (List.mem_cons_of_mem _ cm_1099) dX11_end_6 ?_
    refine lv_icmp_le (tgt := 14) cx.1 cx.2.1 dX11_end_9 (by decide) (fun c9 => ?_) (fun c9 => ?_)
    · have h := md_ip c9 h
      refine lv_aload_n cx.1 cx.2.1 dX11_end_14 rfl (lv_at hl 0 rfl) ?_
      refine lv_iload_n cx.1 cx.2.1 dX11_end_15 rfl (lv_at hl 1 rfl) ?_
      obtain ⟨σ1, e_σ1, h⟩ := md_ob h
      refine cd_pI (o := 11) (k := 1) (f := 353) hj cx hw hic11 rfl ⟨by decide, rfl, by decide, rfl⟩ tyX11_ok nmX11 rfl (by decide) rfl (List.mem_cons_of_mem _ cm_1099) rfl e_σ1 dX11_end_16 (fun H locs hw => ?_)
      refine lv_iconst (v := 1) cx.1 cx.2.1 dX11_end_19 (by decide) ?_
      exact hp_zret cx hw (cd_ret hj h) (by decide) dX11_end_20
    · have h := md_in c9 h
      refine lv_iconst (v := 0) cx.1 cx.2.1 dX11_end_12 (by decide) ?_
      exact hp_zret cx hw (cd_ret hj h) (by decide) dX11_end_13
set_option maxHeartbeats 4000000 in
set_option maxRecDepth 100000 in
theorem kc_X11_program (l : Launch) (D : va_G) (cA : Nat → ClassId) (E : hp_N) (sz : Nat) (ad : Nat → Nat → Nat) (ca0 : Nat → Nat) (hj : cd_inj ad ca0) (oq sgq sgv : Nat) (hE : cd_E E oq sgq sgv) (n : Nat) (σ0 : cd_S) (b0 : cd_B) (p : (Int32 × cd_S × cd_B)) (h : f_X11_program n σ0 b0 = some (Sum.inl p)) : (p.2.2.1 ≤ b0.1 ∧ p.2.2.2 ≤ b0.2) ∧ Met l yX11_program (Cond.code yX11_program cX11_program 3 (some .int) :: v_CLS) ({ frames := 419, cells := b0.1 - p.2.2.1, slots := b0.2 - p.2.2.2, locals := 10750 }) (hp_Pc D vwCl (hp_Tl cA) E sz (cd_pic cA ad ca0 σ0) [.ref (ad 11 0)]) (hp_Qi D vwCl (hp_Tl cA) sz (cd_pic cA ad ca0 σ0) (fun r u => r = p.1 ∧ ∃ ca1, cd_inj ad ca1 ∧ u = cd_pic cA ad ca1 p.2.1)) (b0.1 - p.2.2.1) (b0.2 - p.2.2.2) (hp_A (cd_pic cA ad ca0 σ0) sz) := by
  obtain ⟨hm0, hn0, h⟩ := cd_cks h
  have hM0 : p.2.2.1 ≤ b0.1 ∧ p.2.2.2 ≤ b0.2 := ⟨hm0, hn0⟩
  refine ⟨hM0, ?_⟩
  refine hp_ofW (cc := cX11_program) (maxL := 3) (ret := (some .int)) (by decide) rfl (Nat.le_of_ble_eq_true rfl) ?_
  intro pp ee ss mm bb mt cd ls cx hsz hw hl
  have hl : lv_has ls 3 [(0, .ref (ad 11 0))] := hl
  refine W.widen (k := b0.1 - b0.1) (n := b0.2 - b0.2) (Nat.zero_le _) (Nat.zero_le _) ?_
  refine lv_aload_n cx.1 cx.2.1 dX11_program_0 rfl (lv_at hl 0 rfl) ?_
  refine cd_gI (o := 11) (k := 1) (f := 353) hj cx hw hic11 rfl ⟨by decide, rfl, by decide, rfl⟩ rfl (by decide) (List.mem_cons_of_mem _ cm_1099) dX11_program_1 ?_
  refine lv_istore_n (lv' := [(1, .int (cI σ0 353 0)), (0, .ref (ad 11 0))]) cx.1 cx.2.1 dX11_program_4 rfl hl (by decide) rfl (fun ls hl => ?_)
  refine lv_aload_n cx.1 cx.2.1 dX11_program_5 rfl (lv_at hl 1 rfl) ?_
  refine lv_iconst (v := 0) cx.1 cx.2.1 dX11_program_6 (by decide) ?_
  obtain ⟨σ1, e_σ1, h⟩ := md_ob h
  refine cd_pI (o := 11) (k := 1) (f := 353) hj cx hw hic11 rfl ⟨by decide, rfl, by decide, rfl⟩ tyX11_ok nmX11 rfl (by decide) rfl (List.mem_cons_of_mem _ cm_1099) rfl e_σ1 dX11_program_7 (fun H locs hw => ?_)
  refine lv_aload_n cx.1 cx.2.1 dX11_program_10 rfl (lv_at hl 1 rfl) ?_
  refine lv_iconst (v := 0) cx.1 cx.2.1 dX11_program_11 (by decide) ?_
  obtain ⟨σ2, e_σ2, h⟩ := md_ob h
  refine cd_pZ (o := 11) (k := 10) (f := 362) hj cx hw hic11 rfl ⟨by decide, rfl, by decide, rfl⟩ tyX11_ok nmX11 rfl (by decide) rfl (List.mem_cons_of_mem _ cm_1106) rfl (by decide) e_σ2 dX11_program_12 (fun H locs hw => ?_)
  refine lv_aload_n cx.1 cx.2.1 dX11_program_15 rfl (lv_at hl 1 rfl) ?_
  refine cd_gO (o2 := 1) (e2 := 0) (o := 11) (k := 7) (f := 359) hj cx hw hic11 rfl ⟨by decide, rfl, by decide, rfl⟩ rfl (by decide) ⟨rfl, rfl⟩ (List.mem_cons_of_mem _ cm_1107) dX11_program_16 ?_
  obtain ⟨p3, e_p3, h⟩ := md_ob h
  refine hp_callVv (As := []) (rest := []) cx hw (kc_X1_forget l D cA E _ ad _ hj oq sgq sgv hE n σ2  p3 e_p3) (cwV 0 cx.2.2.2.2.2.1 (cd_giV cm_1108 cm_1109 cm_1110 cm_130 cm_1111) rfl rfl rfl hdc_X1_forget ⟨Nat.le_of_ble_eq_true rfl, Nat.le_of_ble_eq_true rfl⟩) (cd_atO hj (by decide) (by decide)) rfl rfl hl.1 rfl (Nat.le_of_ble_eq_true rfl) dX11_program_19 ⟨by (try dsimp only); omega, by (try dsimp only); omega⟩ (fun u H locs hp hw => ?_)
  obtain ⟨ca, hj, rfl⟩ := hp
  refine lv_aload_n cx.1 cx.2.1 dX11_program_22 rfl (lv_at hl 1 rfl) ?_
  refine cd_gO (o2 := 8) (e2 := 0) (o := 11) (k := 6) (f := 358) hj cx hw hic11 rfl ⟨by decide, rfl, by decide, rfl⟩ rfl (by decide) ⟨rfl, rfl⟩ (List.mem_cons_of_mem _ cm_1112) dX11_program_23 ?_
  obtain ⟨p4, e_p4, h⟩ := md_ob h
  refine hp_callVv (As := []) (rest := []) cx hw (kc_X8_forget l D cA E _ ad _ hj oq sgq sgv hE n p3.2  p4 e_p4) (cwV 0 cx.2.2.2.2.2.1 (cd_giV cm_1113 cm_1114 cm_1115 cm_996 cm_1116) rfl rfl rfl hdc_X8_forget ⟨Nat.le_of_ble_eq_true rfl, Nat.le_of_ble_eq_true rfl⟩) (cd_atO hj (by decide) (by decide)) rfl rfl hl.1 rfl (Nat.le_of_ble_eq_true rfl) dX11_program_26 ⟨by (try dsimp only); omega, by (try dsimp only); omega⟩ (fun u H locs hp hw => ?_)
  obtain ⟨ca, hj, rfl⟩ := hp
  refine lv_aload_n cx.1 cx.2.1 dX11_program_29 rfl (lv_at hl 1 rfl) ?_
  refine cd_gO (o2 := 10) (e2 := 0) (o := 11) (k := 2) (f := 354) hj cx hw hic11 rfl ⟨by decide, rfl, by decide, rfl⟩ rfl (by decide) ⟨rfl, rfl⟩ (List.mem_cons_of_mem _ cm_1117) dX11_program_30 ?_
  refine lv_aload_n cx.1 cx.2.1 dX11_program_33 rfl (lv_at hl 1 rfl) ?_
  refine cd_gA (o := 11) (k := 0) (f := 352) hj cx hw hic11 rfl ⟨by decide, rfl, by decide, rfl⟩ rfl (by decide) (List.mem_cons_of_mem _ cm_1100) dX11_program_34 ?_
  refine lv_iload_n cx.1 cx.2.1 dX11_program_37 rfl (lv_at hl 0 rfl) ?_
  refine lv_iconst (v := 4) cx.1 cx.2.1 dX11_program_38 (by decide) ?_
  obtain ⟨p5, e_p5, h⟩ := md_ob h
  obtain ⟨hm6, hn6, h⟩ := cd_cks h
  have hM6 : p.2.2.1 ≤ p5.2.2.1 ∧ p.2.2.2 ≤ p5.2.2.2 := ⟨hm6, hn6⟩
  have hle5 := (kc_X10_begin l D cA E sz ad _ hj oq sgq sgv hE n p4.2 b0 ((cI σ0 353 0)) (4 : Int32) p5 e_p5).1
  refine hp_callVv (As := [.ref (ad 452 0), .int (cI σ0 353 0), .int 4]) (rest := []) cx hw ((kc_X10_begin l D cA E _ ad _ hj oq sgq sgv hE n p4.2 b0 ((cI σ0 353 0)) (4 : Int32) p5 e_p5).2) (cwV 3 cx.2.2.2.2.2.1 (cd_giV cm_1118 cm_1119 cm_1120 cm_301 cm_1121) rfl rfl rfl hdc_X10_begin ⟨Nat.le_of_ble_eq_true rfl, Nat.le_of_ble_eq_true rfl⟩) (cd_atO hj (by decide) (by decide)) rfl rfl hl.1 rfl (Nat.le_of_ble_eq_true rfl) dX11_program_39 ⟨by (try dsimp only); omega, by (try dsimp only); omega⟩ (fun u H locs hp hw => ?_)
  obtain ⟨ca, hj, rfl⟩ := hp
  refine W.widen (k := b0.1 - p5.2.2.1) (n := b0.2 - p5.2.2.2) (by omega) (by omega) ?_
  refine lv_aload_n cx.1 cx.2.1 dX11_program_42 rfl (lv_at hl 1 rfl) ?_
  refine cd_gO (o2 := 4) (e2 := 0) (o := 11) (k := 5) (f := 357) hj cx hw hic11 rfl ⟨by decide, rfl, by decide, rfl⟩ rfl (by decide) ⟨rfl, rfl⟩ (List.mem_cons_of_mem _ cm_1122) dX11_program_43 ?_
  obtain ⟨q7, e_q7, h⟩ := md_ob h
  obtain ⟨hm8, hn8, h⟩ := cd_cks h
  have hM8 : p.2.2.1 ≤ (Sum.elim (fun (p : Int32 × cd_S × cd_B) => p.2.2) (fun (t : cd_S × cd_B) => t.2) q7).1 ∧ p.2.2.2 ≤ (Sum.elim (fun (p : Int32 × cd_S × cd_B) => p.2.2) (fun (t : cd_S × cd_B) => t.2) q7).2 := ⟨hm8, hn8⟩
  cases q7 with
  | inr t7 =>
    exact nomatch Option.some.inj h
  | inl p7 =>
    have hle7 := (kc_X4_readGrants l D cA E sz ad _ hj oq sgq sgv hE n p5.2.1 (p5.2.2)  p7 e_q7).1
    have hM10008 : p.2.2.1 ≤ p7.2.2.1 ∧ p.2.2.2 ≤ p7.2.2.2 := hM8
    have h := cd_inl h
    refine hp_callVv (As := []) (rest := []) cx hw ((kc_X4_readGrants l D cA E _ ad _ hj oq sgq sgv hE n p5.2.1 (p5.2.2)  p7 e_q7).2) (cwV 0 cx.2.2.2.2.2.1 (cd_giV cm_1123 cm_1124 cm_1125 cm_663 cm_1126) rfl rfl rfl hdc_X4_readGrants ⟨Nat.le_of_ble_eq_true rfl, Nat.le_of_ble_eq_true rfl⟩) (cd_atO hj (by decide) (by decide)) rfl rfl hl.1 rfl (Nat.le_of_ble_eq_true rfl) dX11_program_46 ⟨by (try dsimp only); omega, by (try dsimp only); omega⟩ (fun u H locs hp hw => ?_)
    obtain ⟨ca, hj, rfl⟩ := hp
    refine W.widen (k := b0.1 - p7.2.2.1) (n := b0.2 - p7.2.2.2) (by omega) (by omega) ?_
    refine lv_iconst (v := 0) cx.1 cx.2.1 dX11_program_49 (by decide) ?_
    refine lv_istore_n (lv' := [(2, .int 0), (1, .int (cI σ0 353 0)), (0, .ref (ad 11 0))]) cx.1 cx.2.1 dX11_program_50 rfl hl (by decide) rfl (fun ls hl => ?_)
    have L51 : ∀ (j : Nat) (ca : Nat → Nat) (hj : cd_inj ad ca) (σ : cd_S) (b : cd_B) (l2 : Int32) (q : (((Int32 × cd_S × cd_B) ⊕ (cd_S × cd_B)) ⊕ (cd_S × cd_B × Int32))) (H : Heap) (locs : List Loc) (ls : Array Slot), b.1 ≤ b0.1 → b.2 ≤ b0.2 → p.2.2.1 ≤ b.1 → p.2.2.2 ≤ b.2 → p.2.2.1 ≤ (Sum.elim (fun (q : ((Int32 × cd_S × cd_B) ⊕ (cd_S × cd_B))) => Sum.elim (fun (p : (Int32 × cd_S × cd_B)) => p.2.2) (fun (t : cd_S × cd_B) => t.2) q) (fun (q : cd_S × cd_B × Int32) => q.2.1) q).1 → p.2.2.2 ≤ (Sum.elim (fun (q : ((Int32 × cd_S × cd_B) ⊕ (cd_S × cd_B))) => Sum.elim (fun (p : (Int32 × cd_S × cd_B)) => p.2.2) (fun (t : cd_S × cd_B) => t.2) q) (fun (q : cd_S × cd_B × Int32) => q.2.1) q).2 → f_X11_program_L51 n j σ b l2 = some q → hp_w D vwCl (hp_Tl cA) E (hp_A (cd_pic cA ad ca0 σ0) sz) ss H locs (cd_pic cA ad ca σ) → lv_has ls 3 [(0, .ref (ad 11 0)), (2, .int l2)] → (∀ t, q = Sum.inr t → (∀ (ca : Nat → Nat) (hj : cd_inj ad ca) (H : Heap) (locs : List Loc) (ls : Array Slot), t.2.1.1 ≤ b0.1 → t.2.1.2 ≤ b0.2 → hp_w D vwCl (hp_Tl cA) E (hp_A (cd_pic cA ad ca0 σ0) sz) ss H locs (cd_pic cA ad ca t.1) → lv_has ls 3 [(0, .ref (ad 11 0))] → W pp l ee ({ frames := 419, cells := b0.1 - p.2.2.1, slots := b0.2 - p.2.2.2, locals := 10750 }) ss mm [.ref (ad 11 0)].toArray bb mt cd H locs (b0.1 - t.2.1.1) (b0.2 - t.2.1.2) (MQ bb (hp_Qi D vwCl (hp_Tl cA) sz (cd_pic cA ad ca0 σ0) (fun r u => r = p.1 ∧ ∃ ca1, cd_inj ad ca1 ∧ u = cd_pic cA ad ca1 p.2.1)) [.ref (ad 11 0)].toArray ss (b0.1 - p.2.2.1) (b0.2 - p.2.2.2) (hp_A (cd_pic cA ad ca0 σ0) sz)) (F0 mm 80 ls []))) → (∀ r, q = Sum.inl r → r = Sum.inl p) → W pp l ee ({ frames := 419, cells := b0.1 - p.2.2.1, slots := b0.2 - p.2.2.2, locals := 10750 }) ss mm [.ref (ad 11 0)].toArray bb mt cd H locs (b0.1 - b.1) (b0.2 - b.2) (MQ bb (hp_Qi D vwCl (hp_Tl cA) sz (cd_pic cA ad ca0 σ0) (fun r u => r = p.1 ∧ ∃ ca1, cd_inj ad ca1 ∧ u = cd_pic cA ad ca1 p.2.1)) [.ref (ad 11 0)].toArray ss (b0.1 - p.2.2.1) (b0.2 - p.2.2.2) (hp_A (cd_pic cA ad ca0 σ0) sz)) (F0 mm 51 ls []) := by
      intro j
      induction j with
      | zero => intro ca hj σ b l2 q H locs ls hb1 hb2 hf1 hf2 hq1 hq2 h; exact nomatch h
      | succ j ih =>
        intro ca hj σ b l2 q H locs ls hb1 hb2 hf1 hf2 hq1 hq2 h hw hl K KR
        unfold f_X11_program_L51 at h
        refine lv_iload_n cx.1 cx.2.1 dX11_program_51 rfl (lv_at hl 1 rfl) ?_
        refine lv_bipush (v := 8) cx.1 cx.2.1 dX11_program_52 (by decide) ?_
        refine lv_icmp_gt (tgt := 80) cx.1 cx.2.1 dX11_program_54 (by decide) (fun c54 => ?_) (fun c54 => ?_)
        · have h := md_ip c54 h
          exact K _ (Option.some.inj h).symm _ hj _ _ _ (by (try dsimp only); omega) (by (try dsimp only); omega) hw (lv_sub hl [0] rfl)
        · have h := md_in c54 h
          refine lv_aload_n cx.1 cx.2.1 dX11_program_57 rfl (lv_at hl 0 rfl) ?_
          refine cd_gO (o2 := 4) (e2 := 0) (o := 11) (k := 5) (f := 357) hj cx hw hic11 rfl ⟨by decide, rfl, by decide, rfl⟩ rfl (by decide) ⟨rfl, rfl⟩ (List.mem_cons_of_mem _ cm_1122) dX11_program_58 ?_
          obtain ⟨q9, e_q9, h⟩ := md_ob h
          obtain ⟨hm10, hn10, h⟩ := cd_cks h
          have hM10 : p.2.2.1 ≤ (Sum.elim (fun (p : Int32 × cd_S × cd_B) => p.2.2) (fun (t : cd_S × cd_B) => t.2) q9).1 ∧ p.2.2.2 ≤ (Sum.elim (fun (p : Int32 × cd_S × cd_B) => p.2.2) (fun (t : cd_S × cd_B) => t.2) q9).2 := ⟨Nat.le_trans hq1 hm10, Nat.le_trans hq2 hn10⟩
          cases q9 with
          | inr t9 =>
            exact nomatch KR _ (Option.some.inj h).symm
          | inl p9 =>
            have hle9 := (kc_X4_hasModule l D cA E sz ad _ hj oq sgq sgv hE n σ b  p9 e_q9).1
            have hM10010 : p.2.2.1 ≤ p9.2.2.1 ∧ p.2.2.2 ≤ p9.2.2.2 := hM10
            have h := cd_inl h
            refine hp_callVi (As := []) (rest := []) cx hw ((kc_X4_hasModule l D cA E _ ad _ hj oq sgq sgv hE n σ b  p9 e_q9).2) (cwV 0 cx.2.2.2.2.2.1 (cd_giV cm_1127 cm_1128 cm_1129 cm_663 cm_1130) rfl rfl rfl hdc_X4_hasModule ⟨Nat.le_of_ble_eq_true rfl, Nat.le_of_ble_eq_true rfl⟩) (cd_atO hj (by decide) (by decide)) rfl rfl hl.1 rfl (Nat.le_of_ble_eq_true rfl) dX11_program_61 ⟨by (try dsimp only); omega, by (try dsimp only); omega⟩ (fun r u H locs hp hw => ?_)
            obtain ⟨rfl, ca, hj, rfl⟩ := hp
            refine W.widen (k := b0.1 - p9.2.2.1) (n := b0.2 - p9.2.2.2) (by omega) (by omega) ?_
            refine lv_if_eq (tgt := 80) cx.1 cx.2.1 dX11_program_64 (by decide) (fun c64 => ?_) (fun c64 => ?_)
            · have h := md_ip c64 h
              exact K _ (Option.some.inj h).symm _ hj _ _ _ (by (try dsimp only); omega) (by (try dsimp only); omega) hw (lv_sub hl [0] rfl)
            · have h := md_in c64 h
              refine lv_aload_n cx.1 cx.2.1 dX11_program_67 rfl (lv_at hl 0 rfl) ?_
              refine cd_gO (o2 := 4) (e2 := 0) (o := 11) (k := 5) (f := 357) hj cx hw hic11 rfl ⟨by decide, rfl, by decide, rfl⟩ rfl (by decide) ⟨rfl, rfl⟩ (List.mem_cons_of_mem _ cm_1122) dX11_program_68 ?_
              obtain ⟨q11, e_q11, h⟩ := md_ob h
              obtain ⟨hm12, hn12, h⟩ := cd_cks h
              have hM12 : p.2.2.1 ≤ (Sum.elim (fun (p : Int32 × cd_S × cd_B) => p.2.2) (fun (t : cd_S × cd_B) => t.2) q11).1 ∧ p.2.2.2 ≤ (Sum.elim (fun (p : Int32 × cd_S × cd_B) => p.2.2) (fun (t : cd_S × cd_B) => t.2) q11).2 := ⟨Nat.le_trans hq1 hm12, Nat.le_trans hq2 hn12⟩
              cases q11 with
              | inr t11 =>
                exact nomatch KR _ (Option.some.inj h).symm
              | inl p11 =>
                have hle11 := (kc_X4_readModule l D cA E sz ad _ hj oq sgq sgv hE n p9.2.1 (p9.2.2)  p11 e_q11).1
                have hM10012 : p.2.2.1 ≤ p11.2.2.1 ∧ p.2.2.2 ≤ p11.2.2.2 := hM12
                have h := cd_inl h
                refine hp_callVv (As := []) (rest := []) cx hw ((kc_X4_readModule l D cA E _ ad _ hj oq sgq sgv hE n p9.2.1 (p9.2.2)  p11 e_q11).2) (cwV 0 cx.2.2.2.2.2.1 (cd_giV cm_1131 cm_1132 cm_1133 cm_663 cm_1134) rfl rfl rfl hdc_X4_readModule ⟨Nat.le_of_ble_eq_true rfl, Nat.le_of_ble_eq_true rfl⟩) (cd_atO hj (by decide) (by decide)) rfl rfl hl.1 rfl (Nat.le_of_ble_eq_true rfl) dX11_program_71 ⟨by (try dsimp only); omega, by (try dsimp only); omega⟩ (fun u H locs hp hw => ?_)
                obtain ⟨ca, hj, rfl⟩ := hp
                refine W.widen (k := b0.1 - p11.2.2.1) (n := b0.2 - p11.2.2.2) (by omega) (by omega) ?_
                refine lv_iinc (v := (l2 + 1)) (lv' := [(2, .int (l2 + 1)), (0, .ref (ad 11 0))]) cx.1 cx.2.1 dX11_program_74 hl (k := 1) rfl rfl (by decide) rfl (fun ls hl => ?_)
                refine lv_goto (tgt := 51) cx.1 cx.2.1 dX11_program_77 (by decide) ?_
                exact ih _ hj p11.2.1 (p11.2.2) ((l2 + 1)) q _ _ _ (by omega) (by omega) (by omega) (by omega) hq1 hq2 h hw (lv_sub hl [1, 0] rfl) K KR
    obtain ⟨q13, e_q13, h⟩ := md_ob h
    obtain ⟨hm14, hn14, h⟩ := cd_cks h
    have hM14 : p.2.2.1 ≤ (Sum.elim (fun (q : ((Int32 × cd_S × cd_B) ⊕ (cd_S × cd_B))) => Sum.elim (fun (p : (Int32 × cd_S × cd_B)) => p.2.2) (fun (t : cd_S × cd_B) => t.2) q) (fun (q : cd_S × cd_B × Int32) => q.2.1) q13).1 ∧ p.2.2.2 ≤ (Sum.elim (fun (q : ((Int32 × cd_S × cd_B) ⊕ (cd_S × cd_B))) => Sum.elim (fun (p : (Int32 × cd_S × cd_B)) => p.2.2) (fun (t : cd_S × cd_B) => t.2) q) (fun (q : cd_S × cd_B × Int32) => q.2.1) q13).2 := ⟨hm14, hn14⟩
    refine L51 n _ hj p7.2.1 (p7.2.2) 0 q13 _ _ _ (by omega) (by omega) (by omega) (by omega) hM14.1 hM14.2 e_q13 hw (lv_sub hl [2, 0] rfl) (fun t13 hq13 ca hj H locs ls hb1 hb2 hw hl => ?_) (fun r hr => by subst hr; exact Option.some.inj h)
    subst hq13
    have h := md_inr h
    have hS14 : p.2.2.1 ≤ t13.2.1.1 ∧ p.2.2.2 ≤ t13.2.1.2 := hM14
    refine lv_aload_n cx.1 cx.2.1 dX11_program_80 rfl (lv_at hl 0 rfl) ?_
    refine cd_gO (o2 := 2) (e2 := 0) (o := 11) (k := 4) (f := 356) hj cx hw hic11 rfl ⟨by decide, rfl, by decide, rfl⟩ rfl (by decide) ⟨rfl, rfl⟩ (List.mem_cons_of_mem _ cm_1135) dX11_program_81 ?_
    obtain ⟨p15, e_p15, h⟩ := md_ob h
    refine hp_callVv (As := []) (rest := []) cx hw (kc_X2_settleGroups l D cA E _ ad _ hj oq sgq sgv hE n t13.1  p15 e_p15) (cwV 0 cx.2.2.2.2.2.1 (cd_giV cm_1136 cm_1137 cm_1138 cm_167 cm_1139) rfl rfl rfl hdc_X2_settleGroups ⟨Nat.le_of_ble_eq_true rfl, Nat.le_of_ble_eq_true rfl⟩) (cd_atO hj (by decide) (by decide)) rfl rfl hl.1 rfl (Nat.le_of_ble_eq_true rfl) dX11_program_84 ⟨by (try dsimp only); omega, by (try dsimp only); omega⟩ (fun u H locs hp hw => ?_)
    obtain ⟨ca, hj, rfl⟩ := hp
    refine lv_aload_n cx.1 cx.2.1 dX11_program_87 rfl (lv_at hl 0 rfl) ?_
    refine cd_gO (o2 := 8) (e2 := 0) (o := 11) (k := 6) (f := 358) hj cx hw hic11 rfl ⟨by decide, rfl, by decide, rfl⟩ rfl (by decide) ⟨rfl, rfl⟩ (List.mem_cons_of_mem _ cm_1112) dX11_program_88 ?_
    obtain ⟨p16, e_p16, h⟩ := md_ob h
    refine hp_callVv (As := []) (rest := []) cx hw (kc_X8_findNeeds l D cA E _ ad _ hj oq sgq sgv hE n p15.2  p16 e_p16) (cwV 0 cx.2.2.2.2.2.1 (cd_giV cm_1140 cm_1141 cm_1142 cm_996 cm_1143) rfl rfl rfl hdc_X8_findNeeds ⟨Nat.le_of_ble_eq_true rfl, Nat.le_of_ble_eq_true rfl⟩) (cd_atO hj (by decide) (by decide)) rfl rfl hl.1 rfl (Nat.le_of_ble_eq_true rfl) dX11_program_91 ⟨by (try dsimp only); omega, by (try dsimp only); omega⟩ (fun u H locs hp hw => ?_)
    obtain ⟨ca, hj, rfl⟩ := hp
    refine lv_aload_n cx.1 cx.2.1 dX11_program_94 rfl (lv_at hl 0 rfl) ?_
    refine cd_gO (o2 := 2) (e2 := 0) (o := 11) (k := 4) (f := 356) hj cx hw hic11 rfl ⟨by decide, rfl, by decide, rfl⟩ rfl (by decide) ⟨rfl, rfl⟩ (List.mem_cons_of_mem _ cm_1135) dX11_program_95 ?_
    obtain ⟨p17, e_p17, h⟩ := md_ob h
    obtain ⟨hm18, hn18, h⟩ := cd_cks h
    have hM18 : p.2.2.1 ≤ p17.2.2.1 ∧ p.2.2.2 ≤ p17.2.2.2 := ⟨hm18, hn18⟩
    have hle17 := (kc_X2_writeCode l D cA E sz ad _ hj oq sgq sgv hE n p16.2 (t13.2.1)  p17 e_p17).1
    refine hp_callVv (As := []) (rest := []) cx hw ((kc_X2_writeCode l D cA E _ ad _ hj oq sgq sgv hE n p16.2 (t13.2.1)  p17 e_p17).2) (cwV 0 cx.2.2.2.2.2.1 (cd_giV cm_1144 cm_1145 cm_1146 cm_167 cm_1147) rfl rfl rfl hdc_X2_writeCode ⟨Nat.le_of_ble_eq_true rfl, Nat.le_of_ble_eq_true rfl⟩) (cd_atO hj (by decide) (by decide)) rfl rfl hl.1 rfl (Nat.le_of_ble_eq_true rfl) dX11_program_98 ⟨by (try dsimp only); omega, by (try dsimp only); omega⟩ (fun u H locs hp hw => ?_)
    obtain ⟨ca, hj, rfl⟩ := hp
    refine W.widen (k := b0.1 - p17.2.2.1) (n := b0.2 - p17.2.2.2) (by omega) (by omega) ?_
    refine lv_aload_n cx.1 cx.2.1 dX11_program_101 rfl (lv_at hl 0 rfl) ?_
    refine lv_iconst (v := 1) cx.1 cx.2.1 dX11_program_102 (by decide) ?_
    obtain ⟨σ19, e_σ19, h⟩ := md_ob h
    refine cd_pZ (o := 11) (k := 10) (f := 362) hj cx hw hic11 rfl ⟨by decide, rfl, by decide, rfl⟩ tyX11_ok nmX11 rfl (by decide) rfl (List.mem_cons_of_mem _ cm_1106) rfl (by decide) e_σ19 dX11_program_103 (fun H locs hw => ?_)
    refine lv_aload_n cx.1 cx.2.1 dX11_program_106 rfl (lv_at hl 0 rfl) ?_
    refine cd_gO (o2 := 2) (e2 := 0) (o := 11) (k := 4) (f := 356) hj cx hw hic11 rfl ⟨by decide, rfl, by decide, rfl⟩ rfl (by decide) ⟨rfl, rfl⟩ (List.mem_cons_of_mem _ cm_1135) dX11_program_107 ?_
    refine cd_gI (o := 2) (k := 2) (f := 66) hj cx hw hic2 rfl ⟨by decide, rfl, by decide, rfl⟩ rfl (by decide) (List.mem_cons_of_mem _ cm_1148) dX11_program_110 ?_
    exact hp_iret cx hw (cd_retb hj (congrArg some (Sum.inl.inj (Option.some.inj h)))) dX11_program_113 (cd_le1 (congrArg some (Sum.inl.inj (Option.some.inj h)))) (cd_le2 (congrArg some (Sum.inl.inj (Option.some.inj h))))
set_option maxHeartbeats 4000000 in
set_option maxRecDepth 100000 in
theorem kc_X11_fault (l : Launch) (D : va_G) (cA : Nat → ClassId) (E : hp_N) (sz : Nat) (ad : Nat → Nat → Nat) (ca0 : Nat → Nat) (hj : cd_inj ad ca0) (oq sgq sgv : Nat) (hE : cd_E E oq sgq sgv) (n : Nat) (σ0 : cd_S) (a1 : Int32) (p : (Int32 × cd_S)) (h : f_X11_fault n σ0 a1 = some p) : Met l yX11_fault (Cond.code yX11_fault cX11_fault 2 (some .int) :: v_CLS) ({ frames := 0, cells := 0, slots := 0, locals := 0 }) (hp_Pc D vwCl (hp_Tl cA) E sz (cd_pic cA ad ca0 σ0) [.ref (ad 11 0), .int a1]) (hp_Qi D vwCl (hp_Tl cA) sz (cd_pic cA ad ca0 σ0) (fun r u => r = p.1 ∧ ∃ ca1, cd_inj ad ca1 ∧ u = cd_pic cA ad ca1 p.2)) 0 0 (hp_A (cd_pic cA ad ca0 σ0) sz) := by
  refine hp_ofW (cc := cX11_fault) (maxL := 2) (ret := (some .int)) (by decide) rfl (Nat.le_of_ble_eq_true rfl) ?_
  intro pp ee ss mm bb mt cd ls cx hsz hw hl
  have hl : lv_has ls 2 [(0, .ref (ad 11 0)), (1, .int a1)] := hl
  refine lv_iload_n cx.1 cx.2.1 dX11_fault_0 rfl (lv_at hl 1 rfl) ?_
  refine lv_if_ne (tgt := 12) cx.1 cx.2.1 dX11_fault_1 (by decide) (fun c1 => ?_) (fun c1 => ?_)
  · have h := md_in c1 h
    refine lv_iload_n cx.1 cx.2.1 dX11_fault_12 rfl (lv_at hl 1 rfl) ?_
    refine lv_iconst (v := 1) cx.1 cx.2.1 dX11_fault_13 (by decide) ?_
    refine lv_icmp_ne (tgt := 27) cx.1 cx.2.1 dX11_fault_14 (by decide) (fun c14 => ?_) (fun c14 => ?_)
    · have h := md_in c14 h
      refine lv_iconst (v := (-1)) cx.1 cx.2.1 dX11_fault_27 (by decide) ?_
      exact hp_iret cx hw (cd_ret hj h) dX11_fault_28
    · have h := md_ip c14 h
      refine lv_aload_n cx.1 cx.2.1 dX11_fault_17 rfl (lv_at hl 0 rfl) ?_
      refine cd_gO (o2 := 4) (e2 := 0) (o := 11) (k := 5) (f := 357) hj cx hw hic11 rfl ⟨by decide, rfl, by decide, rfl⟩ rfl (by decide) ⟨rfl, rfl⟩ (List.mem_cons_of_mem _ cm_1122) dX11_fault_18 ?_
      refine cd_gI (o := 4) (k := 12) (f := 140) hj cx hw hic4 rfl ⟨by decide, rfl, by decide, rfl⟩ rfl (by decide) (List.mem_cons_of_mem _ cm_1149) dX11_fault_21 ?_
      refine lv_goto (tgt := 28) cx.1 cx.2.1 dX11_fault_24 (by decide) ?_
      exact hp_iret cx hw (cd_ret hj h) dX11_fault_28
  · have h := md_ip c1 h
    refine lv_aload_n cx.1 cx.2.1 dX11_fault_4 rfl (lv_at hl 0 rfl) ?_
    refine cd_gO (o2 := 4) (e2 := 0) (o := 11) (k := 5) (f := 357) hj cx hw hic11 rfl ⟨by decide, rfl, by decide, rfl⟩ rfl (by decide) ⟨rfl, rfl⟩ (List.mem_cons_of_mem _ cm_1122) dX11_fault_5 ?_
    refine cd_gI (o := 4) (k := 11) (f := 139) hj cx hw hic4 rfl ⟨by decide, rfl, by decide, rfl⟩ rfl (by decide) (List.mem_cons_of_mem _ cm_1150) dX11_fault_8 ?_
    exact hp_iret cx hw (cd_ret hj h) dX11_fault_11
set_option maxHeartbeats 4000000 in
set_option maxRecDepth 100000 in
theorem kc_X11_count (l : Launch) (D : va_G) (cA : Nat → ClassId) (E : hp_N) (sz : Nat) (ad : Nat → Nat → Nat) (ca0 : Nat → Nat) (hj : cd_inj ad ca0) (oq sgq sgv : Nat) (hE : cd_E E oq sgq sgv) (n : Nat) (σ0 : cd_S) (a1 : Int32) (p : (Int32 × cd_S)) (h : f_X11_count n σ0 a1 = some p) : Met l yX11_count (Cond.code yX11_count cX11_count 2 (some .int) :: v_CLS) ({ frames := 2, cells := 0, slots := 0, locals := 43 }) (hp_Pc D vwCl (hp_Tl cA) E sz (cd_pic cA ad ca0 σ0) [.ref (ad 11 0), .int a1]) (hp_Qi D vwCl (hp_Tl cA) sz (cd_pic cA ad ca0 σ0) (fun r u => r = p.1 ∧ ∃ ca1, cd_inj ad ca1 ∧ u = cd_pic cA ad ca1 p.2)) 0 0 (hp_A (cd_pic cA ad ca0 σ0) sz) := by
  refine hp_ofW (cc := cX11_count) (maxL := 2) (ret := (some .int)) (by decide) rfl (Nat.le_of_ble_eq_true rfl) ?_
  intro pp ee ss mm bb mt cd ls cx hsz hw hl
  have hl : lv_has ls 2 [(0, .ref (ad 11 0)), (1, .int a1)] := hl
  refine lv_iload_n cx.1 cx.2.1 dX11_count_0 rfl (lv_at hl 1 rfl) ?_
  refine lv_if_lt (tgt := 10) cx.1 cx.2.1 dX11_count_1 (by decide) (fun c1 => ?_) (fun c1 => ?_)
  · have h := md_ip c1 h
    refine lv_iconst (v := (-1)) cx.1 cx.2.1 dX11_count_10 (by decide) ?_
    exact hp_iret cx hw (cd_ret hj h) dX11_count_11
  · have h := md_in c1 h
    refine lv_iload_n cx.1 cx.2.1 dX11_count_4 rfl (lv_at hl 1 rfl) ?_
    refine lv_bipush (v := 9) cx.1 cx.2.1 dX11_count_5 (by decide) ?_
    refine lv_icmp_le (tgt := 12) cx.1 cx.2.1 dX11_count_7 (by decide) (fun c7 => ?_) (fun c7 => ?_)
    · have h := md_ip c7 h
      refine lv_iload_n cx.1 cx.2.1 dX11_count_12 rfl (lv_at hl 1 rfl) ?_
      refine lv_bipush (v := 9) cx.1 cx.2.1 dX11_count_13 (by decide) ?_
      refine lv_icmp_ne (tgt := 23) cx.1 cx.2.1 dX11_count_15 (by decide) (fun c15 => ?_) (fun c15 => ?_)
      · have h := md_in c15 h
        refine lv_aload_n cx.1 cx.2.1 dX11_count_23 rfl (lv_at hl 0 rfl) ?_
        refine cd_gI (o := 11) (k := 10) (f := 362) hj cx hw hic11 rfl ⟨by decide, rfl, by decide, rfl⟩ rfl (by decide) (List.mem_cons_of_mem _ cm_1106) dX11_count_24 ?_
        refine lv_if_eq (tgt := 41) cx.1 cx.2.1 dX11_count_27 (by decide) (fun c27 => ?_) (fun c27 => ?_)
        · have h := md_ip c27 h
          refine lv_iconst (v := 0) cx.1 cx.2.1 dX11_count_41 (by decide) ?_
          exact hp_iret cx hw (cd_ret hj h) dX11_count_42
        · have h := md_in c27 h
          refine lv_aload_n cx.1 cx.2.1 dX11_count_30 rfl (lv_at hl 0 rfl) ?_
          refine cd_gO (o2 := 2) (e2 := 0) (o := 11) (k := 4) (f := 356) hj cx hw hic11 rfl ⟨by decide, rfl, by decide, rfl⟩ rfl (by decide) ⟨rfl, rfl⟩ (List.mem_cons_of_mem _ cm_1135) dX11_count_31 ?_
          refine lv_iload_n cx.1 cx.2.1 dX11_count_34 rfl (lv_at hl 1 rfl) ?_
          obtain ⟨p1, e_p1, h⟩ := md_ob h
          refine hp_callVi (As := [.int a1]) (rest := []) cx hw (kc_X2_sizeOf l D cA E _ ad _ hj oq sgq sgv hE n σ0 a1 p1 e_p1) (cwV 1 cx.2.2.2.2.2.1 (cd_giV cm_1151 cm_1152 cm_1153 cm_167 cm_1154) rfl rfl rfl hdc_X2_sizeOf ⟨Nat.le_of_ble_eq_true rfl, Nat.le_of_ble_eq_true rfl⟩) (cd_atO hj (by decide) (by decide)) rfl rfl hl.1 rfl (Nat.le_of_ble_eq_true rfl) dX11_count_35 ⟨Nat.le_refl _, Nat.le_refl _⟩ (fun r u H locs hp hw => ?_)
          obtain ⟨rfl, ca, hj, rfl⟩ := hp
          refine lv_goto (tgt := 42) cx.1 cx.2.1 dX11_count_38 (by decide) ?_
          exact hp_iret cx hw (cd_ret hj h) dX11_count_42
      · have h := md_ip c15 h
        refine lv_aload_n cx.1 cx.2.1 dX11_count_18 rfl (lv_at hl 0 rfl) ?_
        refine cd_gI (o := 11) (k := 1) (f := 353) hj cx hw hic11 rfl ⟨by decide, rfl, by decide, rfl⟩ rfl (by decide) (List.mem_cons_of_mem _ cm_1099) dX11_count_19 ?_
        exact hp_iret cx hw (cd_ret hj h) dX11_count_22
    · have h := md_in c7 h
      refine lv_iconst (v := (-1)) cx.1 cx.2.1 dX11_count_10 (by decide) ?_
      exact hp_iret cx hw (cd_ret hj h) dX11_count_11
set_option maxHeartbeats 4000000 in
set_option maxRecDepth 100000 in
theorem kc_X11_hasUnit (l : Launch) (D : va_G) (cA : Nat → ClassId) (E : hp_N) (sz : Nat) (ad : Nat → Nat → Nat) (ca0 : Nat → Nat) (hj : cd_inj ad ca0) (oq sgq sgv : Nat) (hE : cd_E E oq sgq sgv) (n : Nat) (σ0 : cd_S) (a1 : Int32) (p : (Int32 × cd_S)) (h : f_X11_hasUnit n σ0 a1 = some p) : Met l yX11_hasUnit (Cond.code yX11_hasUnit cX11_hasUnit 2 (some .boolean) :: v_CLS) ({ frames := 0, cells := 0, slots := 0, locals := 0 }) (hp_Pc D vwCl (hp_Tl cA) E sz (cd_pic cA ad ca0 σ0) [.ref (ad 11 0), .int a1]) (hp_Qi D vwCl (hp_Tl cA) sz (cd_pic cA ad ca0 σ0) (fun r u => r = p.1 ∧ ∃ ca1, cd_inj ad ca1 ∧ u = cd_pic cA ad ca1 p.2)) 0 0 (hp_A (cd_pic cA ad ca0 σ0) sz) := by
  refine hp_ofW (cc := cX11_hasUnit) (maxL := 2) (ret := (some .boolean)) (by decide) rfl (Nat.le_of_ble_eq_true rfl) ?_
  intro pp ee ss mm bb mt cd ls cx hsz hw hl
  have hl : lv_has ls 2 [(0, .ref (ad 11 0)), (1, .int a1)] := hl
  refine lv_aload_n cx.1 cx.2.1 dX11_hasUnit_0 rfl (lv_at hl 0 rfl) ?_
  refine cd_gI (o := 11) (k := 10) (f := 362) hj cx hw hic11 rfl ⟨by decide, rfl, by decide, rfl⟩ rfl (by decide) (List.mem_cons_of_mem _ cm_1106) dX11_hasUnit_1 ?_
  refine lv_if_eq (tgt := 26) cx.1 cx.2.1 dX11_hasUnit_4 (by decide) (fun c4 => ?_) (fun c4 => ?_)
  · have h := md_ip c4 h
    refine lv_iconst (v := 0) cx.1 cx.2.1 dX11_hasUnit_26 (by decide) ?_
    exact hp_zret cx hw (cd_ret hj h) (by decide) dX11_hasUnit_27
  · have h := md_in c4 h
    refine lv_iload_n cx.1 cx.2.1 dX11_hasUnit_7 rfl (lv_at hl 1 rfl) ?_
    refine lv_if_lt (tgt := 26) cx.1 cx.2.1 dX11_hasUnit_8 (by decide) (fun c8 => ?_) (fun c8 => ?_)
    · have h := md_ip c8 h
      refine lv_iconst (v := 0) cx.1 cx.2.1 dX11_hasUnit_26 (by decide) ?_
      exact hp_zret cx hw (cd_ret hj h) (by decide) dX11_hasUnit_27
    · have h := md_in c8 h
      refine lv_iload_n cx.1 cx.2.1 dX11_hasUnit_11 rfl (lv_at hl 1 rfl) ?_
      refine lv_aload_n cx.1 cx.2.1 dX11_hasUnit_12 rfl (lv_at hl 0 rfl) ?_
      refine cd_gO (o2 := 2) (e2 := 0) (o := 11) (k := 4) (f := 356) hj cx hw hic11 rfl ⟨by decide, rfl, by decide, rfl⟩ rfl (by decide) ⟨rfl, rfl⟩ (List.mem_cons_of_mem _ cm_1135) dX11_hasUnit_13 ?_
      refine cd_gI (o := 2) (k := 2) (f := 66) hj cx hw hic2 rfl ⟨by decide, rfl, by decide, rfl⟩ rfl (by decide) (List.mem_cons_of_mem _ cm_1148) dX11_hasUnit_16 ?_
      refine lv_icmp_ge (tgt := 26) cx.1 cx.2.1 dX11_hasUnit_19 (by decide) (fun c19 => ?_) (fun c19 => ?_)
      · have h := md_ip c19 h
        refine lv_iconst (v := 0) cx.1 cx.2.1 dX11_hasUnit_26 (by decide) ?_
        exact hp_zret cx hw (cd_ret hj h) (by decide) dX11_hasUnit_27
      · have h := md_in c19 h
        refine lv_iconst (v := 1) cx.1 cx.2.1 dX11_hasUnit_22 (by decide) ?_
        refine lv_goto (tgt := 27) cx.1 cx.2.1 dX11_hasUnit_23 (by decide) ?_
        exact hp_zret cx hw (cd_ret hj h) (by decide) dX11_hasUnit_27
set_option maxHeartbeats 4000000 in
set_option maxRecDepth 100000 in
theorem kc_X11_unit (l : Launch) (D : va_G) (cA : Nat → ClassId) (E : hp_N) (sz : Nat) (ad : Nat → Nat → Nat) (ca0 : Nat → Nat) (hj : cd_inj ad ca0) (oq sgq sgv : Nat) (hE : cd_E E oq sgq sgv) (n : Nat) (σ0 : cd_S) (a1 : Int32) (a2 : Int32) (p : (Int32 × cd_S)) (h : f_X11_unit n σ0 a1 a2 = some p) : Met l yX11_unit (Cond.code yX11_unit cX11_unit 3 (some .int) :: v_CLS) ({ frames := 2, cells := 0, slots := 0, locals := 41 }) (hp_Pc D vwCl (hp_Tl cA) E sz (cd_pic cA ad ca0 σ0) [.ref (ad 11 0), .int a1, .int a2]) (hp_Qi D vwCl (hp_Tl cA) sz (cd_pic cA ad ca0 σ0) (fun r u => r = p.1 ∧ ∃ ca1, cd_inj ad ca1 ∧ u = cd_pic cA ad ca1 p.2)) 0 0 (hp_A (cd_pic cA ad ca0 σ0) sz) := by
  refine hp_ofW (cc := cX11_unit) (maxL := 3) (ret := (some .int)) (by decide) rfl (Nat.le_of_ble_eq_true rfl) ?_
  intro pp ee ss mm bb mt cd ls cx hsz hw hl
  have hl : lv_has ls 3 [(0, .ref (ad 11 0)), (1, .int a1), (2, .int a2)] := hl
  refine lv_aload_n cx.1 cx.2.1 dX11_unit_0 rfl (lv_at hl 0 rfl) ?_
  refine lv_iload_n cx.1 cx.2.1 dX11_unit_1 rfl (lv_at hl 1 rfl) ?_
  obtain ⟨p1, e_p1, h⟩ := md_ob h
  refine hp_callVi (As := [.int a1]) (rest := []) cx hw (kc_X11_hasUnit l D cA E _ ad _ hj oq sgq sgv hE n σ0 a1 p1 e_p1) (cwV 1 cx.2.2.2.2.2.1 (cd_giV cm_1155 cm_1156 cm_1157 cm_1104 cm_1158) rfl rfl rfl hdc_X11_hasUnit ⟨Nat.le_of_ble_eq_true rfl, Nat.le_of_ble_eq_true rfl⟩) (cd_atO hj (by decide) (by decide)) rfl rfl hl.1 rfl (Nat.le_of_ble_eq_true rfl) dX11_unit_2 ⟨Nat.le_refl _, Nat.le_refl _⟩ (fun r u H locs hp hw => ?_)
  obtain ⟨rfl, ca, hj, rfl⟩ := hp
  refine lv_if_eq (tgt := 23) cx.1 cx.2.1 dX11_unit_5 (by decide) (fun c5 => ?_) (fun c5 => ?_)
  · have h := md_ip c5 h
    refine lv_iconst (v := (-1)) cx.1 cx.2.1 dX11_unit_23 (by decide) ?_
    exact hp_iret cx hw (cd_ret hj h) dX11_unit_24
  · have h := md_in c5 h
    refine lv_aload_n cx.1 cx.2.1 dX11_unit_8 rfl (lv_at hl 0 rfl) ?_
    refine cd_gO (o2 := 2) (e2 := 0) (o := 11) (k := 4) (f := 356) hj cx hw hic11 rfl ⟨by decide, rfl, by decide, rfl⟩ rfl (by decide) ⟨rfl, rfl⟩ (List.mem_cons_of_mem _ cm_1135) dX11_unit_9 ?_
    refine lv_iload_n cx.1 cx.2.1 dX11_unit_12 rfl (lv_at hl 1 rfl) ?_
    obtain ⟨p2, e_p2, h⟩ := md_ob h
    refine hp_callVr (As := [.int a1]) (rest := []) cx hw (kc_X2_unitAt l D cA E _ ad _ hj oq sgq sgv hE n p1.2 a1 p2 e_p2) (cwV 1 cx.2.2.2.2.2.1 (cd_giV cm_1159 cm_285 cm_286 cm_167 cm_287) rfl rfl rfl hdc_X2_unitAt ⟨Nat.le_of_ble_eq_true rfl, Nat.le_of_ble_eq_true rfl⟩) (cd_atO hj (by decide) (by decide)) rfl rfl hl.1 rfl (Nat.le_of_ble_eq_true rfl) dX11_unit_13 ⟨Nat.le_refl _, Nat.le_refl _⟩ (fun r u H locs hp hw => ?_)
    obtain ⟨⟨hb_p2, rfl⟩, ca, hj, rfl⟩ := hp
    refine lv_iload_n cx.1 cx.2.1 dX11_unit_16 rfl (lv_at hl 2 rfl) ?_
    obtain ⟨p3, e_p3, h⟩ := md_ob h
    refine hp_callVi (As := [.int a2]) (rest := []) cx hw (kc_X9_tell l D cA E _ ad _ hj oq sgq sgv hE n p2.2 (p2.1) a2 (show _ < 60 by omega) p3 e_p3) (cwV 1 cx.2.2.2.2.2.1 (cd_giV cm_1160 cm_1161 cm_1162 cm_114 cm_1163) rfl rfl rfl hdc_X9_tell ⟨Nat.le_of_ble_eq_true rfl, Nat.le_of_ble_eq_true rfl⟩) (cd_atO hj (by decide) (show _ < 60 by omega)) rfl rfl hl.1 rfl (Nat.le_of_ble_eq_true rfl) dX11_unit_17 ⟨Nat.le_refl _, Nat.le_refl _⟩ (fun r u H locs hp hw => ?_)
    obtain ⟨rfl, ca, hj, rfl⟩ := hp
    refine lv_goto (tgt := 24) cx.1 cx.2.1 dX11_unit_20 (by decide) ?_
    exact hp_iret cx hw (cd_ret hj h) dX11_unit_24
set_option maxHeartbeats 4000000 in
set_option maxRecDepth 100000 in
theorem kc_X11_code (l : Launch) (D : va_G) (cA : Nat → ClassId) (E : hp_N) (sz : Nat) (ad : Nat → Nat → Nat) (ca0 : Nat → Nat) (hj : cd_inj ad ca0) (oq sgq sgv : Nat) (hE : cd_E E oq sgq sgv) (n : Nat) (σ0 : cd_S) (a1 : Int32) (a2 : Int32) (a3 : Int32) (p : (Int32 × cd_S)) (h : f_X11_code n σ0 a1 a2 a3 = some p) : Met l yX11_code (Cond.code yX11_code cX11_code 6 (some .int) :: v_CLS) ({ frames := 1, cells := 0, slots := 0, locals := 21 }) (hp_Pc D vwCl (hp_Tl cA) E sz (cd_pic cA ad ca0 σ0) [.ref (ad 11 0), .int a1, .int a2, .int a3]) (hp_Qi D vwCl (hp_Tl cA) sz (cd_pic cA ad ca0 σ0) (fun r u => r = p.1 ∧ ∃ ca1, cd_inj ad ca1 ∧ u = cd_pic cA ad ca1 p.2)) 0 0 (hp_A (cd_pic cA ad ca0 σ0) sz) := by
  refine hp_ofW (cc := cX11_code) (maxL := 6) (ret := (some .int)) (by decide) rfl (Nat.le_of_ble_eq_true rfl) ?_
  intro pp ee ss mm bb mt cd ls cx hsz hw hl
  have hl : lv_has ls 6 [(0, .ref (ad 11 0)), (1, .int a1), (2, .int a2), (3, .int a3)] := hl
  have J37 : ∀ (ca : Nat → Nat) (hj : cd_inj ad ca) (σ : cd_S) (l3 : Int32) (t0 : Nat) (H : Heap) (locs : List Loc) (ls : Array Slot), t0 < 197 → f_X11_code_J37 n σ l3 t0 = some p → hp_w D vwCl (hp_Tl cA) E (hp_A (cd_pic cA ad ca0 σ0) sz) ss H locs (cd_pic cA ad ca σ) → lv_has ls 6 [(3, .int l3)] → W pp l ee ({ frames := 1, cells := 0, slots := 0, locals := 21 }) ss mm [.ref (ad 11 0), .int a1, .int a2, .int a3].toArray bb mt cd H locs 0 0 (MQ bb (hp_Qi D vwCl (hp_Tl cA) sz (cd_pic cA ad ca0 σ0) (fun r u => r = p.1 ∧ ∃ ca1, cd_inj ad ca1 ∧ u = cd_pic cA ad ca1 p.2)) [.ref (ad 11 0), .int a1, .int a2, .int a3].toArray ss 0 0 (hp_A (cd_pic cA ad ca0 σ0) sz)) (F0 mm 37 ls [.ref (ad 6 t0)]) := by
    intro ca hj σ l3 t0 H locs ls hb_t0 h hw hl
    refine lv_astore (lv' := [(5, .ref (ad 6 t0)), (3, .int l3)]) cx.1 cx.2.1 dX11_code_37 hl (by decide) rfl (fun ls hl => ?_)
    refine lv_iload_n cx.1 cx.2.1 dX11_code_39 rfl (lv_at hl 1 rfl) ?_
    refine lv_if_lt (tgt := 61) cx.1 cx.2.1 dX11_code_40 (by decide) (fun c40 => ?_) (fun c40 => ?_)
    · have h := md_ip c40 h
      refine lv_iconst (v := (-1)) cx.1 cx.2.1 dX11_code_61 (by decide) ?_
      exact hp_iret cx hw (cd_ret hj h) dX11_code_62
    · have h := md_in c40 h
      refine lv_iload_n cx.1 cx.2.1 dX11_code_43 rfl (lv_at hl 1 rfl) ?_
      refine lv_aload cx.1 cx.2.1 dX11_code_44 (lv_at hl 0 rfl) ?_
      refine cd_gI (o := 6) (k := 1) (f := 193) hj cx hw hic6 rfl ⟨by decide, rfl, by decide, rfl⟩ rfl (show _ < 197 by omega) (List.mem_cons_of_mem _ cm_1166) dX11_code_46 ?_
      refine lv_icmp_ge (tgt := 61) cx.1 cx.2.1 dX11_code_49 (by decide) (fun c49 => ?_) (fun c49 => ?_)
      · have h := md_ip c49 h
        refine lv_iconst (v := (-1)) cx.1 cx.2.1 dX11_code_61 (by decide) ?_
        exact hp_iret cx hw (cd_ret hj h) dX11_code_62
      · have h := md_in c49 h
        refine lv_aload cx.1 cx.2.1 dX11_code_52 (lv_at hl 0 rfl) ?_
        refine lv_iload_n cx.1 cx.2.1 dX11_code_54 rfl (lv_at hl 1 rfl) ?_
        obtain ⟨p1, e_p1, h⟩ := md_ob h
        refine hp_callVi (As := [.int l3]) (rest := []) cx hw (kc_X6_at l D cA E _ ad _ hj oq sgq sgv hE n σ t0 l3 (show _ < 197 by omega) p1 e_p1) (cwV 1 cx.2.2.2.2.2.1 (cd_giV cm_1167 cm_17 cm_18 cm_5 cm_19) rfl rfl rfl hdc_X6_at ⟨Nat.le_of_ble_eq_true rfl, Nat.le_of_ble_eq_true rfl⟩) (cd_atO hj (by decide) (show _ < 197 by omega)) rfl rfl hl.1 rfl (Nat.le_of_ble_eq_true rfl) dX11_code_55 ⟨Nat.le_refl _, Nat.le_refl _⟩ (fun r u H locs hp hw => ?_)
        obtain ⟨rfl, ca, hj, rfl⟩ := hp
        refine lv_goto (tgt := 62) cx.1 cx.2.1 dX11_code_58 (by decide) ?_
        exact hp_iret cx hw (cd_ret hj h) dX11_code_62
  refine lv_aload_n cx.1 cx.2.1 dX11_code_0 rfl (lv_at hl 0 rfl) ?_
  refine lv_iload_n cx.1 cx.2.1 dX11_code_1 rfl (lv_at hl 1 rfl) ?_
  obtain ⟨p2, e_p2, h⟩ := md_ob h
  refine hp_callVi (As := [.int a1]) (rest := []) cx hw (kc_X11_hasUnit l D cA E _ ad _ hj oq sgq sgv hE n σ0 a1 p2 e_p2) (cwV 1 cx.2.2.2.2.2.1 (cd_giV cm_1155 cm_1156 cm_1157 cm_1104 cm_1158) rfl rfl rfl hdc_X11_hasUnit ⟨Nat.le_of_ble_eq_true rfl, Nat.le_of_ble_eq_true rfl⟩) (cd_atO hj (by decide) (by decide)) rfl rfl hl.1 rfl (Nat.le_of_ble_eq_true rfl) dX11_code_2 ⟨Nat.le_refl _, Nat.le_refl _⟩ (fun r u H locs hp hw => ?_)
  obtain ⟨rfl, ca, hj, rfl⟩ := hp
  refine lv_if_ne (tgt := 10) cx.1 cx.2.1 dX11_code_5 (by decide) (fun c5 => ?_) (fun c5 => ?_)
  · have h := md_in c5 h
    refine lv_aload_n cx.1 cx.2.1 dX11_code_10 rfl (lv_at hl 0 rfl) ?_
    refine cd_gO (o2 := 2) (e2 := 0) (o := 11) (k := 4) (f := 356) hj cx hw hic11 rfl ⟨by decide, rfl, by decide, rfl⟩ rfl (by decide) ⟨rfl, rfl⟩ (List.mem_cons_of_mem _ cm_1135) dX11_code_11 ?_
    refine lv_iload_n cx.1 cx.2.1 dX11_code_14 rfl (lv_at hl 1 rfl) ?_
    obtain ⟨p3, e_p3, h⟩ := md_ob h
    refine hp_callVr (As := [.int a1]) (rest := []) cx hw (kc_X2_unitAt l D cA E _ ad _ hj oq sgq sgv hE n p2.2 a1 p3 e_p3) (cwV 1 cx.2.2.2.2.2.1 (cd_giV cm_1159 cm_285 cm_286 cm_167 cm_287) rfl rfl rfl hdc_X2_unitAt ⟨Nat.le_of_ble_eq_true rfl, Nat.le_of_ble_eq_true rfl⟩) (cd_atO hj (by decide) (by decide)) rfl rfl hl.1 rfl (Nat.le_of_ble_eq_true rfl) dX11_code_15 ⟨Nat.le_refl _, Nat.le_refl _⟩ (fun r u H locs hp hw => ?_)
    obtain ⟨⟨hb_p3, rfl⟩, ca, hj, rfl⟩ := hp
    refine lv_astore (lv' := [(4, .ref (ad 9 p3.1)), (0, .ref (ad 11 0)), (1, .int a1), (2, .int a2), (3, .int a3)]) cx.1 cx.2.1 dX11_code_18 hl (by decide) rfl (fun ls hl => ?_)
    refine lv_iload_n cx.1 cx.2.1 dX11_code_20 rfl (lv_at hl 3 rfl) ?_
    refine lv_if_eq (tgt := 32) cx.1 cx.2.1 dX11_code_21 (by decide) (fun c21 => ?_) (fun c21 => ?_)
    · have h := md_ip c21 h
      refine lv_aload cx.1 cx.2.1 dX11_code_32 (lv_at hl 0 rfl) ?_
      refine cd_gO (o2 := 6) (e2 := (18 + 3 * (p3.1))) (o := 9) (k := 16) (f := 304) hj cx hw hic9 rfl ⟨by decide, rfl, by decide, rfl⟩ rfl (show _ < 60 by omega) ⟨rfl, rfl⟩ (List.mem_cons_of_mem _ cm_1164) dX11_code_34 ?_
      exact J37 _ hj p3.2 a3 ((18 + 3 * (p3.1))) _ _ _ (by omega) h hw (lv_sub hl [4] rfl)
    · have h := md_in c21 h
      refine lv_aload cx.1 cx.2.1 dX11_code_24 (lv_at hl 0 rfl) ?_
      refine cd_gO (o2 := 6) (e2 := (19 + 3 * (p3.1))) (o := 9) (k := 17) (f := 305) hj cx hw hic9 rfl ⟨by decide, rfl, by decide, rfl⟩ rfl (show _ < 60 by omega) ⟨rfl, rfl⟩ (List.mem_cons_of_mem _ cm_1165) dX11_code_26 ?_
      refine lv_goto (tgt := 37) cx.1 cx.2.1 dX11_code_29 (by decide) ?_
      exact J37 _ hj p3.2 a3 ((19 + 3 * (p3.1))) _ _ _ (by omega) h hw (lv_sub hl [4] rfl)
  · have h := md_ip c5 h
    refine lv_iconst (v := (-1)) cx.1 cx.2.1 dX11_code_8 (by decide) ?_
    exact hp_iret cx hw (cd_ret hj h) dX11_code_9
set_option maxHeartbeats 4000000 in
set_option maxRecDepth 100000 in
theorem kc_X11_number (l : Launch) (D : va_G) (cA : Nat → ClassId) (E : hp_N) (sz : Nat) (ad : Nat → Nat → Nat) (ca0 : Nat → Nat) (hj : cd_inj ad ca0) (oq sgq sgv : Nat) (hE : cd_E E oq sgq sgv) (n : Nat) (σ0 : cd_S) (a1 : Int32) (p : (Int32 × cd_S)) (h : f_X11_number n σ0 a1 = some p) : Met l yX11_number (Cond.code yX11_number cX11_number 2 (some .int) :: v_CLS) ({ frames := 1, cells := 0, slots := 0, locals := 21 }) (hp_Pc D vwCl (hp_Tl cA) E sz (cd_pic cA ad ca0 σ0) [.ref (ad 11 0), .int a1]) (hp_Qi D vwCl (hp_Tl cA) sz (cd_pic cA ad ca0 σ0) (fun r u => r = p.1 ∧ ∃ ca1, cd_inj ad ca1 ∧ u = cd_pic cA ad ca1 p.2)) 0 0 (hp_A (cd_pic cA ad ca0 σ0) sz) := by
  refine hp_ofW (cc := cX11_number) (maxL := 2) (ret := (some .int)) (by decide) rfl (Nat.le_of_ble_eq_true rfl) ?_
  intro pp ee ss mm bb mt cd ls cx hsz hw hl
  have hl : lv_has ls 2 [(0, .ref (ad 11 0)), (1, .int a1)] := hl
  refine lv_aload_n cx.1 cx.2.1 dX11_number_0 rfl (lv_at hl 0 rfl) ?_
  refine cd_gI (o := 11) (k := 10) (f := 362) hj cx hw hic11 rfl ⟨by decide, rfl, by decide, rfl⟩ rfl (by decide) (List.mem_cons_of_mem _ cm_1106) dX11_number_1 ?_
  refine lv_if_eq (tgt := 18) cx.1 cx.2.1 dX11_number_4 (by decide) (fun c4 => ?_) (fun c4 => ?_)
  · have h := md_ip c4 h
    refine lv_iconst (v := 0) cx.1 cx.2.1 dX11_number_18 (by decide) ?_
    exact hp_iret cx hw (cd_ret hj h) dX11_number_19
  · have h := md_in c4 h
    refine lv_aload_n cx.1 cx.2.1 dX11_number_7 rfl (lv_at hl 0 rfl) ?_
    refine cd_gO (o2 := 2) (e2 := 0) (o := 11) (k := 4) (f := 356) hj cx hw hic11 rfl ⟨by decide, rfl, by decide, rfl⟩ rfl (by decide) ⟨rfl, rfl⟩ (List.mem_cons_of_mem _ cm_1135) dX11_number_8 ?_
    refine lv_iload_n cx.1 cx.2.1 dX11_number_11 rfl (lv_at hl 1 rfl) ?_
    obtain ⟨p1, e_p1, h⟩ := md_ob h
    refine hp_callVi (As := [.int a1]) (rest := []) cx hw (kc_X2_numberAt l D cA E _ ad _ hj oq sgq sgv hE n σ0 a1 p1 e_p1) (cwV 1 cx.2.2.2.2.2.1 (cd_giV cm_1168 cm_423 cm_424 cm_167 cm_425) rfl rfl rfl hdc_X2_numberAt ⟨Nat.le_of_ble_eq_true rfl, Nat.le_of_ble_eq_true rfl⟩) (cd_atO hj (by decide) (by decide)) rfl rfl hl.1 rfl (Nat.le_of_ble_eq_true rfl) dX11_number_12 ⟨Nat.le_refl _, Nat.le_refl _⟩ (fun r u H locs hp hw => ?_)
    obtain ⟨rfl, ca, hj, rfl⟩ := hp
    refine lv_goto (tgt := 19) cx.1 cx.2.1 dX11_number_15 (by decide) ?_
    exact hp_iret cx hw (cd_ret hj h) dX11_number_19
set_option maxHeartbeats 4000000 in
set_option maxRecDepth 100000 in
theorem kc_X11_domain (l : Launch) (D : va_G) (cA : Nat → ClassId) (E : hp_N) (sz : Nat) (ad : Nat → Nat → Nat) (ca0 : Nat → Nat) (hj : cd_inj ad ca0) (oq sgq sgv : Nat) (hE : cd_E E oq sgq sgv) (n : Nat) (σ0 : cd_S) (a1 : Int32) (p : (Int32 × cd_S)) (h : f_X11_domain n σ0 a1 = some p) : Met l yX11_domain (Cond.code yX11_domain cX11_domain 2 (some .int) :: v_CLS) ({ frames := 1, cells := 0, slots := 0, locals := 21 }) (hp_Pc D vwCl (hp_Tl cA) E sz (cd_pic cA ad ca0 σ0) [.ref (ad 11 0), .int a1]) (hp_Qi D vwCl (hp_Tl cA) sz (cd_pic cA ad ca0 σ0) (fun r u => r = p.1 ∧ ∃ ca1, cd_inj ad ca1 ∧ u = cd_pic cA ad ca1 p.2)) 0 0 (hp_A (cd_pic cA ad ca0 σ0) sz) := by
  refine hp_ofW (cc := cX11_domain) (maxL := 2) (ret := (some .int)) (by decide) rfl (Nat.le_of_ble_eq_true rfl) ?_
  intro pp ee ss mm bb mt cd ls cx hsz hw hl
  have hl : lv_has ls 2 [(0, .ref (ad 11 0)), (1, .int a1)] := hl
  refine lv_aload_n cx.1 cx.2.1 dX11_domain_0 rfl (lv_at hl 0 rfl) ?_
  refine cd_gI (o := 11) (k := 10) (f := 362) hj cx hw hic11 rfl ⟨by decide, rfl, by decide, rfl⟩ rfl (by decide) (List.mem_cons_of_mem _ cm_1106) dX11_domain_1 ?_
  refine lv_if_eq (tgt := 33) cx.1 cx.2.1 dX11_domain_4 (by decide) (fun c4 => ?_) (fun c4 => ?_)
  · have h := md_ip c4 h
    refine lv_iconst (v := (-1)) cx.1 cx.2.1 dX11_domain_33 (by decide) ?_
    exact hp_iret cx hw (cd_ret hj h) dX11_domain_34
  · have h := md_in c4 h
    refine lv_iload_n cx.1 cx.2.1 dX11_domain_7 rfl (lv_at hl 1 rfl) ?_
    refine lv_if_lt (tgt := 33) cx.1 cx.2.1 dX11_domain_8 (by decide) (fun c8 => ?_) (fun c8 => ?_)
    · have h := md_ip c8 h
      refine lv_iconst (v := (-1)) cx.1 cx.2.1 dX11_domain_33 (by decide) ?_
      exact hp_iret cx hw (cd_ret hj h) dX11_domain_34
    · have h := md_in c8 h
      refine lv_iload_n cx.1 cx.2.1 dX11_domain_11 rfl (lv_at hl 1 rfl) ?_
      refine lv_aload_n cx.1 cx.2.1 dX11_domain_12 rfl (lv_at hl 0 rfl) ?_
      refine cd_gO (o2 := 2) (e2 := 0) (o := 11) (k := 4) (f := 356) hj cx hw hic11 rfl ⟨by decide, rfl, by decide, rfl⟩ rfl (by decide) ⟨rfl, rfl⟩ (List.mem_cons_of_mem _ cm_1135) dX11_domain_13 ?_
      refine cd_gI (o := 2) (k := 10) (f := 74) hj cx hw hic2 rfl ⟨by decide, rfl, by decide, rfl⟩ rfl (by decide) (List.mem_cons_of_mem _ cm_1169) dX11_domain_16 ?_
      refine lv_icmp_ge (tgt := 33) cx.1 cx.2.1 dX11_domain_19 (by decide) (fun c19 => ?_) (fun c19 => ?_)
      · have h := md_ip c19 h
        refine lv_iconst (v := (-1)) cx.1 cx.2.1 dX11_domain_33 (by decide) ?_
        exact hp_iret cx hw (cd_ret hj h) dX11_domain_34
      · have h := md_in c19 h
        refine lv_aload_n cx.1 cx.2.1 dX11_domain_22 rfl (lv_at hl 0 rfl) ?_
        refine cd_gO (o2 := 3) (e2 := 0) (o := 11) (k := 3) (f := 355) hj cx hw hic11 rfl ⟨by decide, rfl, by decide, rfl⟩ rfl (by decide) ⟨rfl, rfl⟩ (List.mem_cons_of_mem _ cm_1170) dX11_domain_23 ?_
        refine lv_iload_n cx.1 cx.2.1 dX11_domain_26 rfl (lv_at hl 1 rfl) ?_
        obtain ⟨p1, e_p1, h⟩ := md_ob h
        refine hp_callVi (As := [.int a1]) (rest := []) cx hw (kc_X3_domainOf l D cA E _ ad _ hj oq sgq sgv hE n σ0 a1 p1 e_p1) (cwV 1 cx.2.2.2.2.2.1 (cd_giV cm_1171 cm_550 cm_551 cm_332 cm_552) rfl rfl rfl hdc_X3_domainOf ⟨Nat.le_of_ble_eq_true rfl, Nat.le_of_ble_eq_true rfl⟩) (cd_atO hj (by decide) (by decide)) rfl rfl hl.1 rfl (Nat.le_of_ble_eq_true rfl) dX11_domain_27 ⟨Nat.le_refl _, Nat.le_refl _⟩ (fun r u H locs hp hw => ?_)
        obtain ⟨rfl, ca, hj, rfl⟩ := hp
        refine lv_goto (tgt := 34) cx.1 cx.2.1 dX11_domain_30 (by decide) ?_
        exact hp_iret cx hw (cd_ret hj h) dX11_domain_34
set_option maxHeartbeats 4000000 in
set_option maxRecDepth 100000 in
theorem kc_X11_asks (l : Launch) (D : va_G) (cA : Nat → ClassId) (E : hp_N) (sz : Nat) (ad : Nat → Nat → Nat) (ca0 : Nat → Nat) (hj : cd_inj ad ca0) (oq sgq sgv : Nat) (hE : cd_E E oq sgq sgv) (n : Nat) (σ0 : cd_S) (b0 : cd_B) (p : (Int32 × cd_S × cd_B)) (h : f_X11_asks n σ0 b0 = some p) : (p.2.2.1 ≤ b0.1 ∧ p.2.2.2 ≤ b0.2) ∧ Met l yX11_asks (Cond.code yX11_asks cX11_asks 4 (some .boolean) :: v_CLS) ({ frames := 8, cells := b0.1 - p.2.2.1, slots := b0.2 - p.2.2.2, locals := 250 }) (hp_Pc D vwCl (hp_Tl cA) E sz (cd_pic cA ad ca0 σ0) [.ref (ad 11 0)]) (hp_Qi D vwCl (hp_Tl cA) sz (cd_pic cA ad ca0 σ0) (fun r u => r = p.1 ∧ ∃ ca1, cd_inj ad ca1 ∧ u = cd_pic cA ad ca1 p.2.1)) (b0.1 - p.2.2.1) (b0.2 - p.2.2.2) (hp_A (cd_pic cA ad ca0 σ0) sz) := by
  obtain ⟨hm0, hn0, h⟩ := cd_cks h
  have hM0 : p.2.2.1 ≤ b0.1 ∧ p.2.2.2 ≤ b0.2 := ⟨hm0, hn0⟩
  refine ⟨hM0, ?_⟩
  refine hp_ofW (cc := cX11_asks) (maxL := 4) (ret := (some .boolean)) (by decide) rfl (Nat.le_of_ble_eq_true rfl) ?_
  intro pp ee ss mm bb mt cd ls cx hsz hw hl
  have hl : lv_has ls 4 [(0, .ref (ad 11 0))] := hl
  refine W.widen (k := b0.1 - b0.1) (n := b0.2 - b0.2) (Nat.zero_le _) (Nat.zero_le _) ?_
  refine lv_aload_n cx.1 cx.2.1 dX11_asks_0 rfl (lv_at hl 0 rfl) ?_
  refine cd_gI (o := 11) (k := 1) (f := 353) hj cx hw hic11 rfl ⟨by decide, rfl, by decide, rfl⟩ rfl (by decide) (List.mem_cons_of_mem _ cm_1099) dX11_asks_1 ?_
  refine lv_istore_n (lv' := [(1, .int (cI σ0 353 0)), (0, .ref (ad 11 0))]) cx.1 cx.2.1 dX11_asks_4 rfl hl (by decide) rfl (fun ls hl => ?_)
  refine lv_aload_n cx.1 cx.2.1 dX11_asks_5 rfl (lv_at hl 1 rfl) ?_
  refine lv_iconst (v := 0) cx.1 cx.2.1 dX11_asks_6 (by decide) ?_
  obtain ⟨σ1, e_σ1, h⟩ := md_ob h
  refine cd_pI (o := 11) (k := 1) (f := 353) hj cx hw hic11 rfl ⟨by decide, rfl, by decide, rfl⟩ tyX11_ok nmX11 rfl (by decide) rfl (List.mem_cons_of_mem _ cm_1099) rfl e_σ1 dX11_asks_7 (fun H locs hw => ?_)
  refine lv_aload_n cx.1 cx.2.1 dX11_asks_10 rfl (lv_at hl 1 rfl) ?_
  refine cd_gO (o2 := 10) (e2 := 0) (o := 11) (k := 2) (f := 354) hj cx hw hic11 rfl ⟨by decide, rfl, by decide, rfl⟩ rfl (by decide) ⟨rfl, rfl⟩ (List.mem_cons_of_mem _ cm_1117) dX11_asks_11 ?_
  refine lv_aload_n cx.1 cx.2.1 dX11_asks_14 rfl (lv_at hl 1 rfl) ?_
  refine cd_gA (o := 11) (k := 0) (f := 352) hj cx hw hic11 rfl ⟨by decide, rfl, by decide, rfl⟩ rfl (by decide) (List.mem_cons_of_mem _ cm_1100) dX11_asks_15 ?_
  refine lv_iload_n cx.1 cx.2.1 dX11_asks_18 rfl (lv_at hl 0 rfl) ?_
  refine lv_iconst (v := 5) cx.1 cx.2.1 dX11_asks_19 (by decide) ?_
  obtain ⟨p2, e_p2, h⟩ := md_ob h
  obtain ⟨hm3, hn3, h⟩ := cd_cks h
  have hM3 : p.2.2.1 ≤ p2.2.2.1 ∧ p.2.2.2 ≤ p2.2.2.2 := ⟨hm3, hn3⟩
  have hle2 := (kc_X10_begin l D cA E sz ad _ hj oq sgq sgv hE n σ1 b0 ((cI σ0 353 0)) (5 : Int32) p2 e_p2).1
  refine hp_callVv (As := [.ref (ad 452 0), .int (cI σ0 353 0), .int 5]) (rest := []) cx hw ((kc_X10_begin l D cA E _ ad _ hj oq sgq sgv hE n σ1 b0 ((cI σ0 353 0)) (5 : Int32) p2 e_p2).2) (cwV 3 cx.2.2.2.2.2.1 (cd_giV cm_1118 cm_1119 cm_1120 cm_301 cm_1121) rfl rfl rfl hdc_X10_begin ⟨Nat.le_of_ble_eq_true rfl, Nat.le_of_ble_eq_true rfl⟩) (cd_atO hj (by decide) (by decide)) rfl rfl hl.1 rfl (Nat.le_of_ble_eq_true rfl) dX11_asks_20 ⟨by (try dsimp only); omega, by (try dsimp only); omega⟩ (fun u H locs hp hw => ?_)
  obtain ⟨ca, hj, rfl⟩ := hp
  refine W.widen (k := b0.1 - p2.2.2.1) (n := b0.2 - p2.2.2.2) (by omega) (by omega) ?_
  refine lv_aload_n cx.1 cx.2.1 dX11_asks_23 rfl (lv_at hl 1 rfl) ?_
  refine cd_gO (o2 := 10) (e2 := 0) (o := 11) (k := 2) (f := 354) hj cx hw hic11 rfl ⟨by decide, rfl, by decide, rfl⟩ rfl (by decide) ⟨rfl, rfl⟩ (List.mem_cons_of_mem _ cm_1117) dX11_asks_24 ?_
  refine cd_gI (o := 10) (k := 8) (f := 328) hj cx hw hic10 rfl ⟨by decide, rfl, by decide, rfl⟩ rfl (by decide) (List.mem_cons_of_mem _ cm_1172) dX11_asks_27 ?_
  refine lv_iconst (v := 2) cx.1 cx.2.1 dX11_asks_30 (by decide) ?_
  refine lv_icmp_eq (tgt := 36) cx.1 cx.2.1 dX11_asks_31 (by decide) (fun c31 => ?_) (fun c31 => ?_)
  · have h := md_ip c31 h
    refine lv_aload_n cx.1 cx.2.1 dX11_asks_36 rfl (lv_at hl 1 rfl) ?_
    refine cd_gO (o2 := 10) (e2 := 0) (o := 11) (k := 2) (f := 354) hj cx hw hic11 rfl ⟨by decide, rfl, by decide, rfl⟩ rfl (by decide) ⟨rfl, rfl⟩ (List.mem_cons_of_mem _ cm_1117) dX11_asks_37 ?_
    refine cd_gJ (o := 10) (k := 10) (f := 330) hj cx hw hic10 rfl ⟨by decide, rfl, by decide, rfl⟩ rfl (by decide) (List.mem_cons_of_mem _ cm_1173) dX11_asks_40 ?_
    refine lv_lstore_n (lv' := [(2, .long (cJ p2.2.1 330 0)), (1, .int (cI σ0 353 0)), (0, .ref (ad 11 0))]) cx.1 cx.2.1 dX11_asks_43 rfl hl (by decide) rfl (fun ls hl => ?_)
    refine lv_aload_n cx.1 cx.2.1 dX11_asks_44 rfl (lv_at hl 2 rfl) ?_
    refine cd_gO (o2 := 10) (e2 := 0) (o := 11) (k := 2) (f := 354) hj cx hw hic11 rfl ⟨by decide, rfl, by decide, rfl⟩ rfl (by decide) ⟨rfl, rfl⟩ (List.mem_cons_of_mem _ cm_1117) dX11_asks_45 ?_
    obtain ⟨p4, e_p4, h⟩ := md_ob h
    refine hp_callVv (As := []) (rest := []) cx hw (kc_X10_advance l D cA E _ ad _ hj oq sgq sgv hE n p2.2.1  p4 e_p4) (cwV 0 cx.2.2.2.2.2.1 (cd_giV cm_1174 cm_671 cm_672 cm_301 cm_673) rfl rfl rfl hdc_X10_advance ⟨Nat.le_of_ble_eq_true rfl, Nat.le_of_ble_eq_true rfl⟩) (cd_atO hj (by decide) (by decide)) rfl rfl hl.1 rfl (Nat.le_of_ble_eq_true rfl) dX11_asks_48 ⟨by (try dsimp only); omega, by (try dsimp only); omega⟩ (fun u H locs hp hw => ?_)
    obtain ⟨ca, hj, rfl⟩ := hp
    refine lv_aload_n cx.1 cx.2.1 dX11_asks_51 rfl (lv_at hl 2 rfl) ?_
    refine cd_gO (o2 := 10) (e2 := 0) (o := 11) (k := 2) (f := 354) hj cx hw hic11 rfl ⟨by decide, rfl, by decide, rfl⟩ rfl (by decide) ⟨rfl, rfl⟩ (List.mem_cons_of_mem _ cm_1117) dX11_asks_52 ?_
    refine cd_gI (o := 10) (k := 8) (f := 328) hj cx hw hic10 rfl ⟨by decide, rfl, by decide, rfl⟩ rfl (by decide) (List.mem_cons_of_mem _ cm_1172) dX11_asks_55 ?_
    refine lv_iconst (v := 4) cx.1 cx.2.1 dX11_asks_58 (by decide) ?_
    refine lv_icmp_ne (tgt := 72) cx.1 cx.2.1 dX11_asks_59 (by decide) (fun c59 => ?_) (fun c59 => ?_)
    · have h := md_in c59 h
      refine lv_iconst (v := 0) cx.1 cx.2.1 dX11_asks_72 (by decide) ?_
      exact hp_zret cx hw (cd_retb hj h) (by decide) dX11_asks_73 (cd_le1 h) (cd_le2 h)
    · have h := md_ip c59 h
      refine lv_aload_n cx.1 cx.2.1 dX11_asks_62 rfl (lv_at hl 2 rfl) ?_
      refine cd_gO (o2 := 10) (e2 := 0) (o := 11) (k := 2) (f := 354) hj cx hw hic11 rfl ⟨by decide, rfl, by decide, rfl⟩ rfl (by decide) ⟨rfl, rfl⟩ (List.mem_cons_of_mem _ cm_1117) dX11_asks_63 ?_
      obtain ⟨p5, e_p5, h⟩ := md_ob h
      refine hp_callVi (As := []) (rest := []) cx hw (kc_X10_hasTail l D cA E _ ad _ hj oq sgq sgv hE n p4.2  p5 e_p5) (cwV 0 cx.2.2.2.2.2.1 (cd_giV cm_1175 cm_679 cm_680 cm_301 cm_681) rfl rfl rfl hdc_X10_hasTail ⟨Nat.le_of_ble_eq_true rfl, Nat.le_of_ble_eq_true rfl⟩) (cd_atO hj (by decide) (by decide)) rfl rfl hl.1 rfl (Nat.le_of_ble_eq_true rfl) dX11_asks_66 ⟨by (try dsimp only); omega, by (try dsimp only); omega⟩ (fun r u H locs hp hw => ?_)
      obtain ⟨rfl, ca, hj, rfl⟩ := hp
      refine lv_if_eq (tgt := 74) cx.1 cx.2.1 dX11_asks_69 (by decide) (fun c69 => ?_) (fun c69 => ?_)
      · have h := md_ip c69 h
        refine lv_aload_n cx.1 cx.2.1 dX11_asks_74 rfl (lv_at hl 2 rfl) ?_
        refine cd_gO (o2 := 10) (e2 := 0) (o := 11) (k := 2) (f := 354) hj cx hw hic11 rfl ⟨by decide, rfl, by decide, rfl⟩ rfl (by decide) ⟨rfl, rfl⟩ (List.mem_cons_of_mem _ cm_1117) dX11_asks_75 ?_
        refine lv_aload_n cx.1 cx.2.1 dX11_asks_78 rfl (lv_at hl 2 rfl) ?_
        refine cd_gO (o2 := 5) (e2 := 194) (o := 11) (k := 8) (f := 360) hj cx hw hic11 rfl ⟨by decide, rfl, by decide, rfl⟩ rfl (by decide) ⟨rfl, rfl⟩ (List.mem_cons_of_mem _ cm_1176) dX11_asks_79 ?_
        obtain ⟨p6, e_p6, h⟩ := md_ob h
        refine hp_callVv (As := [.ref (ad 5 194)]) (rest := []) cx hw (kc_X10_copyPattern l D cA E _ ad _ hj oq sgq sgv hE n p5.2 194 (by decide) p6 e_p6) (cwV 1 cx.2.2.2.2.2.1 (cd_giV cm_1177 cm_684 cm_685 cm_301 cm_686) rfl rfl rfl hdc_X10_copyPattern ⟨Nat.le_of_ble_eq_true rfl, Nat.le_of_ble_eq_true rfl⟩) (cd_atO hj (by decide) (by decide)) rfl rfl hl.1 rfl (Nat.le_of_ble_eq_true rfl) dX11_asks_82 ⟨by (try dsimp only); omega, by (try dsimp only); omega⟩ (fun u H locs hp hw => ?_)
        obtain ⟨ca, hj, rfl⟩ := hp
        refine lv_aload_n cx.1 cx.2.1 dX11_asks_85 rfl (lv_at hl 2 rfl) ?_
        refine cd_gO (o2 := 10) (e2 := 0) (o := 11) (k := 2) (f := 354) hj cx hw hic11 rfl ⟨by decide, rfl, by decide, rfl⟩ rfl (by decide) ⟨rfl, rfl⟩ (List.mem_cons_of_mem _ cm_1117) dX11_asks_86 ?_
        obtain ⟨p7, e_p7, h⟩ := md_ob h
        refine hp_callVv (As := []) (rest := []) cx hw (kc_X10_advance l D cA E _ ad _ hj oq sgq sgv hE n p6.2  p7 e_p7) (cwV 0 cx.2.2.2.2.2.1 (cd_giV cm_1174 cm_671 cm_672 cm_301 cm_673) rfl rfl rfl hdc_X10_advance ⟨Nat.le_of_ble_eq_true rfl, Nat.le_of_ble_eq_true rfl⟩) (cd_atO hj (by decide) (by decide)) rfl rfl hl.1 rfl (Nat.le_of_ble_eq_true rfl) dX11_asks_89 ⟨by (try dsimp only); omega, by (try dsimp only); omega⟩ (fun u H locs hp hw => ?_)
        obtain ⟨ca, hj, rfl⟩ := hp
        refine lv_aload_n cx.1 cx.2.1 dX11_asks_92 rfl (lv_at hl 2 rfl) ?_
        refine cd_gO (o2 := 10) (e2 := 0) (o := 11) (k := 2) (f := 354) hj cx hw hic11 rfl ⟨by decide, rfl, by decide, rfl⟩ rfl (by decide) ⟨rfl, rfl⟩ (List.mem_cons_of_mem _ cm_1117) dX11_asks_93 ?_
        refine cd_gI (o := 10) (k := 8) (f := 328) hj cx hw hic10 rfl ⟨by decide, rfl, by decide, rfl⟩ rfl (by decide) (List.mem_cons_of_mem _ cm_1172) dX11_asks_96 ?_
        refine lv_if_eq (tgt := 104) cx.1 cx.2.1 dX11_asks_99 (by decide) (fun c99 => ?_) (fun c99 => ?_)
        · have h := md_ip c99 h
          refine lv_aload_n cx.1 cx.2.1 dX11_asks_104 rfl (lv_at hl 2 rfl) ?_
          refine cd_gO (o2 := 5) (e2 := 195) (o := 11) (k := 9) (f := 361) hj cx hw hic11 rfl ⟨by decide, rfl, by decide, rfl⟩ rfl (by decide) ⟨rfl, rfl⟩ (List.mem_cons_of_mem _ cm_1178) dX11_asks_105 ?_
          refine lv_aload_n cx.1 cx.2.1 dX11_asks_108 rfl (lv_at hl 2 rfl) ?_
          refine cd_gO (o2 := 5) (e2 := 194) (o := 11) (k := 8) (f := 360) hj cx hw hic11 rfl ⟨by decide, rfl, by decide, rfl⟩ rfl (by decide) ⟨rfl, rfl⟩ (List.mem_cons_of_mem _ cm_1176) dX11_asks_109 ?_
          obtain ⟨p8, e_p8, h⟩ := md_ob h
          refine hp_callVv (As := [.ref (ad 5 194)]) (rest := []) cx hw (kc_X5_take l D cA E _ ad _ hj oq sgq sgv hE n p7.2 195 194 (by decide) (by decide) p8 e_p8) (cwV 1 cx.2.2.2.2.2.1 (cd_giV cm_1179 cm_314 cm_315 cm_306 cm_316) rfl rfl rfl hdc_X5_take ⟨Nat.le_of_ble_eq_true rfl, Nat.le_of_ble_eq_true rfl⟩) (cd_atO hj (by decide) (by decide)) rfl rfl hl.1 rfl (Nat.le_of_ble_eq_true rfl) dX11_asks_112 ⟨by (try dsimp only); omega, by (try dsimp only); omega⟩ (fun u H locs hp hw => ?_)
          obtain ⟨ca, hj, rfl⟩ := hp
          refine lv_aload_n cx.1 cx.2.1 dX11_asks_115 rfl (lv_at hl 2 rfl) ?_
          refine cd_gO (o2 := 5) (e2 := 195) (o := 11) (k := 9) (f := 361) hj cx hw hic11 rfl ⟨by decide, rfl, by decide, rfl⟩ rfl (by decide) ⟨rfl, rfl⟩ (List.mem_cons_of_mem _ cm_1178) dX11_asks_116 ?_
          refine lv_lload_n cx.1 cx.2.1 dX11_asks_119 rfl (lv_at hl 0 rfl) ?_
          obtain ⟨σ9, e_σ9, h⟩ := md_ob h
          refine cd_pJ (o := 5) (k := 0) (f := 160) hj cx hw hic5 rfl ⟨by decide, rfl, by decide, rfl⟩ tyX5_ok nmX5 rfl (by decide) rfl (List.mem_cons_of_mem _ cm_1180) rfl e_σ9 dX11_asks_120 (fun H locs hw => ?_)
          refine lv_aload_n cx.1 cx.2.1 dX11_asks_123 rfl (lv_at hl 2 rfl) ?_
          refine lv_iconst (v := 1) cx.1 cx.2.1 dX11_asks_124 (by decide) ?_
          obtain ⟨σ10, e_σ10, h⟩ := md_ob h
          refine cd_pZ (o := 11) (k := 11) (f := 363) hj cx hw hic11 rfl ⟨by decide, rfl, by decide, rfl⟩ tyX11_ok nmX11 rfl (by decide) rfl (List.mem_cons_of_mem _ cm_1181) rfl (by decide) e_σ10 dX11_asks_125 (fun H locs hw => ?_)
          refine lv_aload_n cx.1 cx.2.1 dX11_asks_128 rfl (lv_at hl 2 rfl) ?_
          refine cd_gO (o2 := 8) (e2 := 0) (o := 11) (k := 6) (f := 358) hj cx hw hic11 rfl ⟨by decide, rfl, by decide, rfl⟩ rfl (by decide) ⟨rfl, rfl⟩ (List.mem_cons_of_mem _ cm_1112) dX11_asks_129 ?_
          obtain ⟨p11, e_p11, h⟩ := md_ob h
          refine hp_callVv (As := []) (rest := []) cx hw (kc_X8_forget l D cA E _ ad _ hj oq sgq sgv hE n σ10  p11 e_p11) (cwV 0 cx.2.2.2.2.2.1 (cd_giV cm_1113 cm_1114 cm_1115 cm_996 cm_1116) rfl rfl rfl hdc_X8_forget ⟨Nat.le_of_ble_eq_true rfl, Nat.le_of_ble_eq_true rfl⟩) (cd_atO hj (by decide) (by decide)) rfl rfl hl.1 rfl (Nat.le_of_ble_eq_true rfl) dX11_asks_132 ⟨by (try dsimp only); omega, by (try dsimp only); omega⟩ (fun u H locs hp hw => ?_)
          obtain ⟨ca, hj, rfl⟩ := hp
          refine lv_iconst (v := 1) cx.1 cx.2.1 dX11_asks_135 (by decide) ?_
          exact hp_zret cx hw (cd_retb hj h) (by decide) dX11_asks_136 (cd_le1 h) (cd_le2 h)
        · have h := md_in c99 h
          refine lv_iconst (v := 0) cx.1 cx.2.1 dX11_asks_102 (by decide) ?_
          exact hp_zret cx hw (cd_retb hj h) (by decide) dX11_asks_103 (cd_le1 h) (cd_le2 h)
      · have h := md_in c69 h
        refine lv_iconst (v := 0) cx.1 cx.2.1 dX11_asks_72 (by decide) ?_
        exact hp_zret cx hw (cd_retb hj h) (by decide) dX11_asks_73 (cd_le1 h) (cd_le2 h)
  · have h := md_in c31 h
    refine lv_iconst (v := 0) cx.1 cx.2.1 dX11_asks_34 (by decide) ?_
    exact hp_zret cx hw (cd_retb hj h) (by decide) dX11_asks_35 (cd_le1 h) (cd_le2 h)
set_option maxHeartbeats 4000000 in
set_option maxRecDepth 100000 in
theorem kc_X11_has (l : Launch) (D : va_G) (cA : Nat → ClassId) (E : hp_N) (sz : Nat) (ad : Nat → Nat → Nat) (ca0 : Nat → Nat) (hj : cd_inj ad ca0) (oq sgq sgv : Nat) (hE : cd_E E oq sgq sgv) (n : Nat) (σ0 : cd_S) (a1 : Int32) (a2 : Int32) (p : (Int32 × cd_S)) (h : f_X11_has n σ0 a1 a2 = some p) : Met l yX11_has (Cond.code yX11_has cX11_has 3 (some .int) :: v_CLS) ({ frames := 3, cells := 0, slots := 0, locals := 73 }) (hp_Pc D vwCl (hp_Tl cA) E sz (cd_pic cA ad ca0 σ0) [.ref (ad 11 0), .int a1, .int a2]) (hp_Qi D vwCl (hp_Tl cA) sz (cd_pic cA ad ca0 σ0) (fun r u => r = p.1 ∧ ∃ ca1, cd_inj ad ca1 ∧ u = cd_pic cA ad ca1 p.2)) 0 0 (hp_A (cd_pic cA ad ca0 σ0) sz) := by
  refine hp_ofW (cc := cX11_has) (maxL := 3) (ret := (some .int)) (by decide) rfl (Nat.le_of_ble_eq_true rfl) ?_
  intro pp ee ss mm bb mt cd ls cx hsz hw hl
  have hl : lv_has ls 3 [(0, .ref (ad 11 0)), (1, .int a1), (2, .int a2)] := hl
  have J68 : ∀ (ca : Nat → Nat) (hj : cd_inj ad ca) (σ : cd_S) (t0 : Int32) (t1 : Int32) (H : Heap) (locs : List Loc) (ls : Array Slot), f_X11_has_J68 n σ t0 t1 = some p → hp_w D vwCl (hp_Tl cA) E (hp_A (cd_pic cA ad ca0 σ0) sz) ss H locs (cd_pic cA ad ca σ) → lv_has ls 3 [] → W pp l ee ({ frames := 3, cells := 0, slots := 0, locals := 73 }) ss mm [.ref (ad 11 0), .int a1, .int a2].toArray bb mt cd H locs 0 0 (MQ bb (hp_Qi D vwCl (hp_Tl cA) sz (cd_pic cA ad ca0 σ0) (fun r u => r = p.1 ∧ ∃ ca1, cd_inj ad ca1 ∧ u = cd_pic cA ad ca1 p.2)) [.ref (ad 11 0), .int a1, .int a2].toArray ss 0 0 (hp_A (cd_pic cA ad ca0 σ0) sz)) (F0 mm 68 ls [.int t0, .int t1]) := by
    intro ca hj σ t0 t1 H locs ls h hw hl
    refine lv_iushr (v := ((t1.toUInt32 >>> (t0.toUInt32 &&& Int32.toUInt32 31)).toInt32)) cx.1 cx.2.1 dX11_has_68 rfl ?_
    refine lv_iconst (v := 1) cx.1 cx.2.1 dX11_has_69 (by decide) ?_
    refine lv_iand cx.1 cx.2.1 dX11_has_70 ?_
    exact hp_iret cx hw (cd_ret hj h) dX11_has_71
  have J40 : ∀ (ca : Nat → Nat) (hj : cd_inj ad ca) (σ : cd_S) (l1 : Int32) (l2 : Int32) (t0 : Int32) (t1 : Int32) (H : Heap) (locs : List Loc) (ls : Array Slot), f_X11_has_J40 n σ l1 l2 t0 t1 = some p → hp_w D vwCl (hp_Tl cA) E (hp_A (cd_pic cA ad ca0 σ0) sz) ss H locs (cd_pic cA ad ca σ) → lv_has ls 3 [(0, .ref (ad 11 0)), (1, .int l1), (2, .int l2)] → W pp l ee ({ frames := 3, cells := 0, slots := 0, locals := 73 }) ss mm [.ref (ad 11 0), .int a1, .int a2].toArray bb mt cd H locs 0 0 (MQ bb (hp_Qi D vwCl (hp_Tl cA) sz (cd_pic cA ad ca0 σ0) (fun r u => r = p.1 ∧ ∃ ca1, cd_inj ad ca1 ∧ u = cd_pic cA ad ca1 p.2)) [.ref (ad 11 0), .int a1, .int a2].toArray ss 0 0 (hp_A (cd_pic cA ad ca0 σ0) sz)) (F0 mm 40 ls [.int t0, .int t1]) := by
    intro ca hj σ l1 l2 t0 t1 H locs ls h hw hl
    refine lv_icmp_lt (tgt := 45) cx.1 cx.2.1 dX11_has_40 (by decide) (fun c40 => ?_) (fun c40 => ?_)
    · have h := md_ip c40 h
      refine lv_aload_n cx.1 cx.2.1 dX11_has_45 rfl (lv_at hl 0 rfl) ?_
      refine cd_gO (o2 := 3) (e2 := 0) (o := 11) (k := 3) (f := 355) hj cx hw hic11 rfl ⟨by decide, rfl, by decide, rfl⟩ rfl (by decide) ⟨rfl, rfl⟩ (List.mem_cons_of_mem _ cm_1170) dX11_has_46 ?_
      refine lv_aload_n cx.1 cx.2.1 dX11_has_49 rfl (lv_at hl 0 rfl) ?_
      refine cd_gO (o2 := 5) (e2 := 195) (o := 11) (k := 9) (f := 361) hj cx hw hic11 rfl ⟨by decide, rfl, by decide, rfl⟩ rfl (by decide) ⟨rfl, rfl⟩ (List.mem_cons_of_mem _ cm_1178) dX11_has_50 ?_
      obtain ⟨p1, e_p1, h⟩ := md_ob h
      refine hp_callVi (As := [.ref (ad 5 195)]) (rest := []) cx hw (kc_X3_holders l D cA E _ ad _ hj oq sgq sgv hE n σ 195 (by decide) p1 e_p1) (cwV 1 cx.2.2.2.2.2.1 (cd_giV cm_1184 cm_359 cm_360 cm_332 cm_361) rfl rfl rfl hdc_X3_holders ⟨Nat.le_of_ble_eq_true rfl, Nat.le_of_ble_eq_true rfl⟩) (cd_atO hj (by decide) (by decide)) rfl rfl hl.1 rfl (Nat.le_of_ble_eq_true rfl) dX11_has_53 ⟨Nat.le_refl _, Nat.le_refl _⟩ (fun r u H locs hp hw => ?_)
      obtain ⟨rfl, ca, hj, rfl⟩ := hp
      refine lv_iload_n cx.1 cx.2.1 dX11_has_56 rfl (lv_at hl 2 rfl) ?_
      refine lv_if_eq (tgt := 67) cx.1 cx.2.1 dX11_has_57 (by decide) (fun c57 => ?_) (fun c57 => ?_)
      · have h := md_ip c57 h
        refine lv_iload_n cx.1 cx.2.1 dX11_has_67 rfl (lv_at hl 1 rfl) ?_
        exact J68 _ hj p1.2 l1 (p1.1) _ _ _ h hw (lv_sub hl [] rfl)
      · have h := md_in c57 h
        refine lv_bipush (v := 8) cx.1 cx.2.1 dX11_has_60 (by decide) ?_
        refine lv_iload_n cx.1 cx.2.1 dX11_has_62 rfl (lv_at hl 1 rfl) ?_
        refine lv_iadd cx.1 cx.2.1 dX11_has_63 ?_
        refine lv_goto (tgt := 68) cx.1 cx.2.1 dX11_has_64 (by decide) ?_
        exact J68 _ hj p1.2 (((8 : Int32) + l1)) (p1.1) _ _ _ h hw (lv_sub hl [] rfl)
    · have h := md_in c40 h
      refine lv_iconst (v := (-1)) cx.1 cx.2.1 dX11_has_43 (by decide) ?_
      exact hp_iret cx hw (cd_ret hj h) dX11_has_44
  refine lv_aload_n cx.1 cx.2.1 dX11_has_0 rfl (lv_at hl 0 rfl) ?_
  refine cd_gI (o := 11) (k := 10) (f := 362) hj cx hw hic11 rfl ⟨by decide, rfl, by decide, rfl⟩ rfl (by decide) (List.mem_cons_of_mem _ cm_1106) dX11_has_1 ?_
  refine lv_if_eq (tgt := 43) cx.1 cx.2.1 dX11_has_4 (by decide) (fun c4 => ?_) (fun c4 => ?_)
  · have h := md_ip c4 h
    refine lv_iconst (v := (-1)) cx.1 cx.2.1 dX11_has_43 (by decide) ?_
    exact hp_iret cx hw (cd_ret hj h) dX11_has_44
  · have h := md_in c4 h
    refine lv_aload_n cx.1 cx.2.1 dX11_has_7 rfl (lv_at hl 0 rfl) ?_
    refine cd_gI (o := 11) (k := 11) (f := 363) hj cx hw hic11 rfl ⟨by decide, rfl, by decide, rfl⟩ rfl (by decide) (List.mem_cons_of_mem _ cm_1181) dX11_has_8 ?_
    refine lv_if_eq (tgt := 43) cx.1 cx.2.1 dX11_has_11 (by decide) (fun c11 => ?_) (fun c11 => ?_)
    · have h := md_ip c11 h
      refine lv_iconst (v := (-1)) cx.1 cx.2.1 dX11_has_43 (by decide) ?_
      exact hp_iret cx hw (cd_ret hj h) dX11_has_44
    · have h := md_in c11 h
      refine lv_iload_n cx.1 cx.2.1 dX11_has_14 rfl (lv_at hl 1 rfl) ?_
      refine lv_if_lt (tgt := 43) cx.1 cx.2.1 dX11_has_15 (by decide) (fun c15 => ?_) (fun c15 => ?_)
      · have h := md_ip c15 h
        refine lv_iconst (v := (-1)) cx.1 cx.2.1 dX11_has_43 (by decide) ?_
        exact hp_iret cx hw (cd_ret hj h) dX11_has_44
      · have h := md_in c15 h
        refine lv_iload_n cx.1 cx.2.1 dX11_has_18 rfl (lv_at hl 1 rfl) ?_
        refine lv_iload_n cx.1 cx.2.1 dX11_has_19 rfl (lv_at hl 2 rfl) ?_
        refine lv_if_eq (tgt := 33) cx.1 cx.2.1 dX11_has_20 (by decide) (fun c20 => ?_) (fun c20 => ?_)
        · have h := md_ip c20 h
          refine lv_aload_n cx.1 cx.2.1 dX11_has_33 rfl (lv_at hl 0 rfl) ?_
          refine cd_gO (o2 := 3) (e2 := 0) (o := 11) (k := 3) (f := 355) hj cx hw hic11 rfl ⟨by decide, rfl, by decide, rfl⟩ rfl (by decide) ⟨rfl, rfl⟩ (List.mem_cons_of_mem _ cm_1170) dX11_has_34 ?_
          refine cd_gI (o := 3) (k := 12) (f := 108) hj cx hw hic3 rfl ⟨by decide, rfl, by decide, rfl⟩ rfl (by decide) (List.mem_cons_of_mem _ cm_1182) dX11_has_37 ?_
          exact J40 _ hj σ0 a1 a2 ((cI σ0 108 0)) a1 _ _ _ h hw (lv_sub hl [0, 1, 2] rfl)
        · have h := md_in c20 h
          refine lv_aload_n cx.1 cx.2.1 dX11_has_23 rfl (lv_at hl 0 rfl) ?_
          refine cd_gO (o2 := 3) (e2 := 0) (o := 11) (k := 3) (f := 355) hj cx hw hic11 rfl ⟨by decide, rfl, by decide, rfl⟩ rfl (by decide) ⟨rfl, rfl⟩ (List.mem_cons_of_mem _ cm_1170) dX11_has_24 ?_
          refine cd_gI (o := 3) (k := 11) (f := 107) hj cx hw hic3 rfl ⟨by decide, rfl, by decide, rfl⟩ rfl (by decide) (List.mem_cons_of_mem _ cm_1183) dX11_has_27 ?_
          refine lv_goto (tgt := 40) cx.1 cx.2.1 dX11_has_30 (by decide) ?_
          exact J40 _ hj σ0 a1 a2 ((cI σ0 107 0)) a1 _ _ _ h hw (lv_sub hl [0, 1, 2] rfl)
set_option maxHeartbeats 4000000 in
set_option maxRecDepth 100000 in
theorem kc_X11_may (l : Launch) (D : va_G) (cA : Nat → ClassId) (E : hp_N) (sz : Nat) (ad : Nat → Nat → Nat) (ca0 : Nat → Nat) (hj : cd_inj ad ca0) (oq sgq sgv : Nat) (hE : cd_E E oq sgq sgv) (n : Nat) (σ0 : cd_S) (a1 : Int32) (p : (Int32 × cd_S)) (h : f_X11_may n σ0 a1 = some p) : Met l yX11_may (Cond.code yX11_may cX11_may 2 (some .int) :: v_CLS) ({ frames := 4, cells := 0, slots := 0, locals := 97 }) (hp_Pc D vwCl (hp_Tl cA) E sz (cd_pic cA ad ca0 σ0) [.ref (ad 11 0), .int a1]) (hp_Qi D vwCl (hp_Tl cA) sz (cd_pic cA ad ca0 σ0) (fun r u => r = p.1 ∧ ∃ ca1, cd_inj ad ca1 ∧ u = cd_pic cA ad ca1 p.2)) 0 0 (hp_A (cd_pic cA ad ca0 σ0) sz) := by
  refine hp_ofW (cc := cX11_may) (maxL := 2) (ret := (some .int)) (by decide) rfl (Nat.le_of_ble_eq_true rfl) ?_
  intro pp ee ss mm bb mt cd ls cx hsz hw hl
  have hl : lv_has ls 2 [(0, .ref (ad 11 0)), (1, .int a1)] := hl
  have J45 : ∀ (ca : Nat → Nat) (hj : cd_inj ad ca) (σ : cd_S) (l1 : Int32) (H : Heap) (locs : List Loc) (ls : Array Slot), f_X11_may_J45 n σ l1 = some p → hp_w D vwCl (hp_Tl cA) E (hp_A (cd_pic cA ad ca0 σ0) sz) ss H locs (cd_pic cA ad ca σ) → lv_has ls 2 [(0, .ref (ad 11 0)), (1, .int l1)] → W pp l ee ({ frames := 4, cells := 0, slots := 0, locals := 97 }) ss mm [.ref (ad 11 0), .int a1].toArray bb mt cd H locs 0 0 (MQ bb (hp_Qi D vwCl (hp_Tl cA) sz (cd_pic cA ad ca0 σ0) (fun r u => r = p.1 ∧ ∃ ca1, cd_inj ad ca1 ∧ u = cd_pic cA ad ca1 p.2)) [.ref (ad 11 0), .int a1].toArray ss 0 0 (hp_A (cd_pic cA ad ca0 σ0) sz)) (F0 mm 45 ls []) := by
    intro ca hj σ l1 H locs ls h hw hl
    refine lv_aload_n cx.1 cx.2.1 dX11_may_45 rfl (lv_at hl 0 rfl) ?_
    refine cd_gO (o2 := 8) (e2 := 0) (o := 11) (k := 6) (f := 358) hj cx hw hic11 rfl ⟨by decide, rfl, by decide, rfl⟩ rfl (by decide) ⟨rfl, rfl⟩ (List.mem_cons_of_mem _ cm_1112) dX11_may_46 ?_
    refine lv_iload_n cx.1 cx.2.1 dX11_may_49 rfl (lv_at hl 1 rfl) ?_
    obtain ⟨p1, e_p1, h⟩ := md_ob h
    refine hp_callVi (As := [.int l1]) (rest := []) cx hw (kc_X8_mayOf l D cA E _ ad _ hj oq sgq sgv hE n σ l1 p1 e_p1) (cwV 1 cx.2.2.2.2.2.1 (cd_giV cm_1190 cm_1016 cm_1017 cm_996 cm_1018) rfl rfl rfl hdc_X8_mayOf ⟨Nat.le_of_ble_eq_true rfl, Nat.le_of_ble_eq_true rfl⟩) (cd_atO hj (by decide) (by decide)) rfl rfl hl.1 rfl (Nat.le_of_ble_eq_true rfl) dX11_may_50 ⟨Nat.le_refl _, Nat.le_refl _⟩ (fun r u H locs hp hw => ?_)
    obtain ⟨rfl, ca, hj, rfl⟩ := hp
    exact hp_iret cx hw (cd_ret hj h) dX11_may_53
  refine lv_aload_n cx.1 cx.2.1 dX11_may_0 rfl (lv_at hl 0 rfl) ?_
  refine cd_gI (o := 11) (k := 11) (f := 363) hj cx hw hic11 rfl ⟨by decide, rfl, by decide, rfl⟩ rfl (by decide) (List.mem_cons_of_mem _ cm_1181) dX11_may_1 ?_
  refine lv_if_eq (tgt := 15) cx.1 cx.2.1 dX11_may_4 (by decide) (fun c4 => ?_) (fun c4 => ?_)
  · have h := md_ip c4 h
    refine lv_iconst (v := (-1)) cx.1 cx.2.1 dX11_may_15 (by decide) ?_
    exact hp_iret cx hw (cd_ret hj h) dX11_may_16
  · have h := md_in c4 h
    refine lv_aload_n cx.1 cx.2.1 dX11_may_7 rfl (lv_at hl 0 rfl) ?_
    refine lv_iload_n cx.1 cx.2.1 dX11_may_8 rfl (lv_at hl 1 rfl) ?_
    obtain ⟨p2, e_p2, h⟩ := md_ob h
    refine hp_callVi (As := [.int a1]) (rest := []) cx hw (kc_X11_hasUnit l D cA E _ ad _ hj oq sgq sgv hE n σ0 a1 p2 e_p2) (cwV 1 cx.2.2.2.2.2.1 (cd_giV cm_1155 cm_1156 cm_1157 cm_1104 cm_1158) rfl rfl rfl hdc_X11_hasUnit ⟨Nat.le_of_ble_eq_true rfl, Nat.le_of_ble_eq_true rfl⟩) (cd_atO hj (by decide) (by decide)) rfl rfl hl.1 rfl (Nat.le_of_ble_eq_true rfl) dX11_may_9 ⟨Nat.le_refl _, Nat.le_refl _⟩ (fun r u H locs hp hw => ?_)
    obtain ⟨rfl, ca, hj, rfl⟩ := hp
    refine lv_if_ne (tgt := 17) cx.1 cx.2.1 dX11_may_12 (by decide) (fun c12 => ?_) (fun c12 => ?_)
    · have h := md_in c12 h
      refine lv_aload_n cx.1 cx.2.1 dX11_may_17 rfl (lv_at hl 0 rfl) ?_
      refine cd_gO (o2 := 8) (e2 := 0) (o := 11) (k := 6) (f := 358) hj cx hw hic11 rfl ⟨by decide, rfl, by decide, rfl⟩ rfl (by decide) ⟨rfl, rfl⟩ (List.mem_cons_of_mem _ cm_1112) dX11_may_18 ?_
      refine cd_gI (o := 8) (k := 4) (f := 260) hj cx hw hic8 rfl ⟨by decide, rfl, by decide, rfl⟩ rfl (by decide) (List.mem_cons_of_mem _ cm_1185) dX11_may_21 ?_
      refine lv_if_ne (tgt := 45) cx.1 cx.2.1 dX11_may_24 (by decide) (fun c24 => ?_) (fun c24 => ?_)
      · have h := md_in c24 h
        exact J45 _ hj p2.2 a1 _ _ _ h hw (lv_sub hl [0, 1] rfl)
      · have h := md_ip c24 h
        refine lv_aload_n cx.1 cx.2.1 dX11_may_27 rfl (lv_at hl 0 rfl) ?_
        refine cd_gO (o2 := 8) (e2 := 0) (o := 11) (k := 6) (f := 358) hj cx hw hic11 rfl ⟨by decide, rfl, by decide, rfl⟩ rfl (by decide) ⟨rfl, rfl⟩ (List.mem_cons_of_mem _ cm_1112) dX11_may_28 ?_
        refine lv_aload_n cx.1 cx.2.1 dX11_may_31 rfl (lv_at hl 0 rfl) ?_
        refine cd_gO (o2 := 3) (e2 := 0) (o := 11) (k := 3) (f := 355) hj cx hw hic11 rfl ⟨by decide, rfl, by decide, rfl⟩ rfl (by decide) ⟨rfl, rfl⟩ (List.mem_cons_of_mem _ cm_1170) dX11_may_32 ?_
        refine lv_aload_n cx.1 cx.2.1 dX11_may_35 rfl (lv_at hl 0 rfl) ?_
        refine cd_gO (o2 := 5) (e2 := 195) (o := 11) (k := 9) (f := 361) hj cx hw hic11 rfl ⟨by decide, rfl, by decide, rfl⟩ rfl (by decide) ⟨rfl, rfl⟩ (List.mem_cons_of_mem _ cm_1178) dX11_may_36 ?_
        obtain ⟨p3, e_p3, h⟩ := md_ob h
        refine hp_callVi (As := [.ref (ad 5 195)]) (rest := [.ref (ad 8 0)]) cx hw (kc_X3_holders l D cA E _ ad _ hj oq sgq sgv hE n p2.2 195 (by decide) p3 e_p3) (cwV 1 cx.2.2.2.2.2.1 (cd_giV cm_1184 cm_359 cm_360 cm_332 cm_361) rfl rfl rfl hdc_X3_holders ⟨Nat.le_of_ble_eq_true rfl, Nat.le_of_ble_eq_true rfl⟩) (cd_atO hj (by decide) (by decide)) rfl rfl hl.1 rfl (Nat.le_of_ble_eq_true rfl) dX11_may_39 ⟨Nat.le_refl _, Nat.le_refl _⟩ (fun r u H locs hp hw => ?_)
        obtain ⟨rfl, ca, hj, rfl⟩ := hp
        obtain ⟨p4, e_p4, h⟩ := md_ob h
        refine hp_callVv (As := [.int p3.1]) (rest := []) cx hw (kc_X8_findMay l D cA E _ ad _ hj oq sgq sgv hE n p3.2 (p3.1) p4 e_p4) (cwV 1 cx.2.2.2.2.2.1 (cd_giV cm_1186 cm_1187 cm_1188 cm_996 cm_1189) rfl rfl rfl hdc_X8_findMay ⟨Nat.le_of_ble_eq_true rfl, Nat.le_of_ble_eq_true rfl⟩) (cd_atO hj (by decide) (by decide)) rfl rfl hl.1 rfl (Nat.le_of_ble_eq_true rfl) dX11_may_42 ⟨Nat.le_refl _, Nat.le_refl _⟩ (fun u H locs hp hw => ?_)
        obtain ⟨ca, hj, rfl⟩ := hp
        exact J45 _ hj p4.2 a1 _ _ _ h hw (lv_sub hl [0, 1] rfl)
    · have h := md_ip c12 h
      refine lv_iconst (v := (-1)) cx.1 cx.2.1 dX11_may_15 (by decide) ?_
      exact hp_iret cx hw (cd_ret hj h) dX11_may_16
set_option maxHeartbeats 4000000 in
set_option maxRecDepth 100000 in
theorem kc_X11_run (l : Launch) (D : va_G) (cA : Nat → ClassId) (E : hp_N) (sz : Nat) (ad : Nat → Nat → Nat) (ca0 : Nat → Nat) (hj : cd_inj ad ca0) (oq sgq sgv : Nat) (hE : cd_E E oq sgq sgv) (n : Nat) (σ0 : cd_S) (b0 : cd_B) (a1 : Int32) (a2 : Int32) (a3 : Int32) (a4 : Int32) (p : (Int32 × cd_S × cd_B)) (h : f_X11_run n σ0 b0 a1 a2 a3 a4 = some (Sum.inl p)) : (p.2.2.1 ≤ b0.1 ∧ p.2.2.2 ≤ b0.2) ∧ Met l yX11_run (Cond.code yX11_run cX11_run 6 (some .int) :: v_CLS) ({ frames := 12, cells := b0.1 - p.2.2.1, slots := b0.2 - p.2.2.2, locals := 256 }) (hp_Pc D vwCl (hp_Tl cA) E sz (cd_pic cA ad ca0 σ0) [.ref (ad 11 0), .int a1, .int a2, .int a3, .int a4]) (hp_Qi D vwCl (hp_Tl cA) sz (cd_pic cA ad ca0 σ0) (fun r u => r = p.1 ∧ ∃ ca1, cd_inj ad ca1 ∧ u = cd_pic cA ad ca1 p.2.1)) (b0.1 - p.2.2.1) (b0.2 - p.2.2.2) (hp_A (cd_pic cA ad ca0 σ0) sz) := by
  obtain ⟨hm0, hn0, h⟩ := cd_cks h
  have hM0 : p.2.2.1 ≤ b0.1 ∧ p.2.2.2 ≤ b0.2 := ⟨hm0, hn0⟩
  refine ⟨hM0, ?_⟩
  refine hp_ofW (cc := cX11_run) (maxL := 6) (ret := (some .int)) (by decide) rfl (Nat.le_of_ble_eq_true rfl) ?_
  intro pp ee ss mm bb mt cd ls cx hsz hw hl
  have hl : lv_has ls 6 [(0, .ref (ad 11 0)), (1, .int a1), (2, .int a2), (3, .int a3), (4, .int a4)] := hl
  refine W.widen (k := b0.1 - b0.1) (n := b0.2 - b0.2) (Nat.zero_le _) (Nat.zero_le _) ?_
  have J73 : ∀ (ca : Nat → Nat) (hj : cd_inj ad ca) (σ : cd_S) (b : cd_B) (H : Heap) (locs : List Loc) (ls : Array Slot), b.1 ≤ b0.1 → b.2 ≤ b0.2 → p.2.2.1 ≤ b.1 → p.2.2.2 ≤ b.2 → f_X11_run_J73 n σ b = some (Sum.inl p) → hp_w D vwCl (hp_Tl cA) E (hp_A (cd_pic cA ad ca0 σ0) sz) ss H locs (cd_pic cA ad ca σ) → lv_has ls 6 [] → W pp l ee ({ frames := 12, cells := b0.1 - p.2.2.1, slots := b0.2 - p.2.2.2, locals := 256 }) ss mm [.ref (ad 11 0), .int a1, .int a2, .int a3, .int a4].toArray bb mt cd H locs (b0.1 - b.1) (b0.2 - b.2) (MQ bb (hp_Qi D vwCl (hp_Tl cA) sz (cd_pic cA ad ca0 σ0) (fun r u => r = p.1 ∧ ∃ ca1, cd_inj ad ca1 ∧ u = cd_pic cA ad ca1 p.2.1)) [.ref (ad 11 0), .int a1, .int a2, .int a3, .int a4].toArray ss (b0.1 - p.2.2.1) (b0.2 - p.2.2.2) (hp_A (cd_pic cA ad ca0 σ0) sz)) (F0 mm 73 ls []) := by
    intro ca hj σ b H locs ls hb1 hb2 hf1 hf2 h hw hl
    obtain ⟨b1, e_b1, h⟩ := md_ob h
    exact nomatch Option.some.inj h
  have J37 : ∀ (ca : Nat → Nat) (hj : cd_inj ad ca) (σ : cd_S) (b : cd_B) (H : Heap) (locs : List Loc) (ls : Array Slot), b.1 ≤ b0.1 → b.2 ≤ b0.2 → p.2.2.1 ≤ b.1 → p.2.2.2 ≤ b.2 → f_X11_run_J37 n σ b = some (Sum.inl p) → hp_w D vwCl (hp_Tl cA) E (hp_A (cd_pic cA ad ca0 σ0) sz) ss H locs (cd_pic cA ad ca σ) → lv_has ls 6 [] → W pp l ee ({ frames := 12, cells := b0.1 - p.2.2.1, slots := b0.2 - p.2.2.2, locals := 256 }) ss mm [.ref (ad 11 0), .int a1, .int a2, .int a3, .int a4].toArray bb mt cd H locs (b0.1 - b.1) (b0.2 - b.2) (MQ bb (hp_Qi D vwCl (hp_Tl cA) sz (cd_pic cA ad ca0 σ0) (fun r u => r = p.1 ∧ ∃ ca1, cd_inj ad ca1 ∧ u = cd_pic cA ad ca1 p.2.1)) [.ref (ad 11 0), .int a1, .int a2, .int a3, .int a4].toArray ss (b0.1 - p.2.2.1) (b0.2 - p.2.2.2) (hp_A (cd_pic cA ad ca0 σ0) sz)) (F0 mm 37 ls []) := by
    intro ca hj σ b H locs ls hb1 hb2 hf1 hf2 h hw hl
    obtain ⟨b2, e_b2, h⟩ := md_ob h
    exact nomatch Option.some.inj h
  refine lv_aload_n cx.1 cx.2.1 dX11_run_0 rfl (lv_at hl 0 rfl) ?_
  refine cd_gI (o := 11) (k := 10) (f := 362) hj cx hw hic11 rfl ⟨by decide, rfl, by decide, rfl⟩ rfl (by decide) (List.mem_cons_of_mem _ cm_1106) dX11_run_1 ?_
  refine lv_if_ne (tgt := 17) cx.1 cx.2.1 dX11_run_4 (by decide) (fun c4 => ?_) (fun c4 => ?_)
  · have h := md_in c4 h
    refine lv_aload_n cx.1 cx.2.1 dX11_run_17 rfl (lv_at hl 0 rfl) ?_
    refine lv_iload_n cx.1 cx.2.1 dX11_run_18 rfl (lv_at hl 1 rfl) ?_
    obtain ⟨p3, e_p3, h⟩ := md_ob h
    refine hp_callVi (As := [.int a1]) (rest := []) cx hw (kc_X11_hasUnit l D cA E _ ad _ hj oq sgq sgv hE n σ0 a1 p3 e_p3) (cwV 1 cx.2.2.2.2.2.1 (cd_giV cm_1155 cm_1156 cm_1157 cm_1104 cm_1158) rfl rfl rfl hdc_X11_hasUnit ⟨Nat.le_of_ble_eq_true rfl, Nat.le_of_ble_eq_true rfl⟩) (cd_atO hj (by decide) (by decide)) rfl rfl hl.1 rfl (Nat.le_of_ble_eq_true rfl) dX11_run_19 ⟨by (try dsimp only); omega, by (try dsimp only); omega⟩ (fun r u H locs hp hw => ?_)
    obtain ⟨rfl, ca, hj, rfl⟩ := hp
    refine lv_if_eq (tgt := 37) cx.1 cx.2.1 dX11_run_22 (by decide) (fun c22 => ?_) (fun c22 => ?_)
    · have h := md_ip c22 h
      exact J37 _ hj p3.2 b0 _ _ _ (by omega) (by omega) (by omega) (by omega) h hw (lv_sub hl [] rfl)
    · have h := md_in c22 h
      refine lv_iload_n cx.1 cx.2.1 dX11_run_25 rfl (lv_at hl 3 rfl) ?_
      refine lv_iconst (v := 1) cx.1 cx.2.1 dX11_run_26 (by decide) ?_
      refine lv_icmp_lt (tgt := 37) cx.1 cx.2.1 dX11_run_27 (by decide) (fun c27 => ?_) (fun c27 => ?_)
      · have h := md_ip c27 h
        exact J37 _ hj p3.2 b0 _ _ _ (by omega) (by omega) (by omega) (by omega) h hw (lv_sub hl [] rfl)
      · have h := md_in c27 h
        refine lv_iload_n cx.1 cx.2.1 dX11_run_30 rfl (lv_at hl 3 rfl) ?_
        refine lv_sipush (v := 4000) cx.1 cx.2.1 dX11_run_31 (by decide) ?_
        refine lv_icmp_le (tgt := 47) cx.1 cx.2.1 dX11_run_34 (by decide) (fun c34 => ?_) (fun c34 => ?_)
        · have h := md_ip c34 h
          refine lv_aload_n cx.1 cx.2.1 dX11_run_47 rfl (lv_at hl 0 rfl) ?_
          refine cd_gO (o2 := 2) (e2 := 0) (o := 11) (k := 4) (f := 356) hj cx hw hic11 rfl ⟨by decide, rfl, by decide, rfl⟩ rfl (by decide) ⟨rfl, rfl⟩ (List.mem_cons_of_mem _ cm_1135) dX11_run_48 ?_
          refine lv_iload_n cx.1 cx.2.1 dX11_run_51 rfl (lv_at hl 1 rfl) ?_
          obtain ⟨p4, e_p4, h⟩ := md_ob h
          refine hp_callVr (As := [.int a1]) (rest := []) cx hw (kc_X2_unitAt l D cA E _ ad _ hj oq sgq sgv hE n p3.2 a1 p4 e_p4) (cwV 1 cx.2.2.2.2.2.1 (cd_giV cm_1159 cm_285 cm_286 cm_167 cm_287) rfl rfl rfl hdc_X2_unitAt ⟨Nat.le_of_ble_eq_true rfl, Nat.le_of_ble_eq_true rfl⟩) (cd_atO hj (by decide) (by decide)) rfl rfl hl.1 rfl (Nat.le_of_ble_eq_true rfl) dX11_run_52 ⟨by (try dsimp only); omega, by (try dsimp only); omega⟩ (fun r u H locs hp hw => ?_)
          obtain ⟨⟨hb_p4, rfl⟩, ca, hj, rfl⟩ := hp
          refine lv_astore (lv' := [(5, .ref (ad 9 p4.1)), (0, .ref (ad 11 0)), (1, .int a1), (2, .int a2), (3, .int a3), (4, .int a4)]) cx.1 cx.2.1 dX11_run_55 hl (by decide) rfl (fun ls hl => ?_)
          refine lv_aload cx.1 cx.2.1 dX11_run_57 (lv_at hl 0 rfl) ?_
          refine cd_gI (o := 9) (k := 1) (f := 289) hj cx hw hic9 rfl ⟨by decide, rfl, by decide, rfl⟩ rfl (show _ < 60 by omega) (List.mem_cons_of_mem _ cm_1191) dX11_run_59 ?_
          refine lv_if_ne (tgt := 73) cx.1 cx.2.1 dX11_run_62 (by decide) (fun c62 => ?_) (fun c62 => ?_)
          · have h := md_in c62 h
            exact J73 _ hj p4.2 b0 _ _ _ (by omega) (by omega) (by omega) (by omega) h hw (lv_sub hl [] rfl)
          · have h := md_ip c62 h
            refine lv_aload cx.1 cx.2.1 dX11_run_65 (lv_at hl 0 rfl) ?_
            refine cd_gI (o := 9) (k := 6) (f := 294) hj cx hw hic9 rfl ⟨by decide, rfl, by decide, rfl⟩ rfl (show _ < 60 by omega) (List.mem_cons_of_mem _ cm_1192) dX11_run_67 ?_
            refine lv_if_eq (tgt := 83) cx.1 cx.2.1 dX11_run_70 (by decide) (fun c70 => ?_) (fun c70 => ?_)
            · have h := md_ip c70 h
              refine lv_aload_n cx.1 cx.2.1 dX11_run_83 rfl (lv_at hl 1 rfl) ?_
              refine cd_gO (o2 := 1) (e2 := 0) (o := 11) (k := 7) (f := 359) hj cx hw hic11 rfl ⟨by decide, rfl, by decide, rfl⟩ rfl (by decide) ⟨rfl, rfl⟩ (List.mem_cons_of_mem _ cm_1107) dX11_run_84 ?_
              refine lv_aload cx.1 cx.2.1 dX11_run_87 (lv_at hl 0 rfl) ?_
              refine lv_iload_n cx.1 cx.2.1 dX11_run_89 rfl (lv_at hl 3 rfl) ?_
              refine lv_iload_n cx.1 cx.2.1 dX11_run_90 rfl (lv_at hl 4 rfl) ?_
              refine lv_iload cx.1 cx.2.1 dX11_run_91 (lv_at hl 5 rfl) ?_
              obtain ⟨p5, e_p5, h⟩ := md_ob h
              obtain ⟨hm6, hn6, h⟩ := cd_cks h
              have hM6 : p.2.2.1 ≤ p5.2.2.1 ∧ p.2.2.2 ≤ p5.2.2.2 := ⟨hm6, hn6⟩
              have hle5 := (kc_X1_prepare l D cA E sz ad _ hj oq sgq sgv hE n p4.2 b0 (p4.1) a2 a3 a4 (show _ < 60 by omega) p5 e_p5).1
              refine hp_callVv (As := [.ref (ad 9 p4.1), .int a2, .int a3, .int a4]) (rest := []) cx hw ((kc_X1_prepare l D cA E _ ad _ hj oq sgq sgv hE n p4.2 b0 (p4.1) a2 a3 a4 (show _ < 60 by omega) p5 e_p5).2) (cwV 4 cx.2.2.2.2.2.1 (cd_giV cm_1193 cm_1194 cm_1195 cm_130 cm_1196) rfl rfl rfl hdc_X1_prepare ⟨Nat.le_of_ble_eq_true rfl, Nat.le_of_ble_eq_true rfl⟩) (cd_atO hj (by decide) (by decide)) rfl rfl hl.1 rfl (Nat.le_of_ble_eq_true rfl) dX11_run_93 ⟨by (try dsimp only); omega, by (try dsimp only); omega⟩ (fun u H locs hp hw => ?_)
              obtain ⟨ca, hj, rfl⟩ := hp
              refine W.widen (k := b0.1 - p5.2.2.1) (n := b0.2 - p5.2.2.2) (by omega) (by omega) ?_
              refine lv_aload_n cx.1 cx.2.1 dX11_run_96 rfl (lv_at hl 1 rfl) ?_
              refine cd_gO (o2 := 1) (e2 := 0) (o := 11) (k := 7) (f := 359) hj cx hw hic11 rfl ⟨by decide, rfl, by decide, rfl⟩ rfl (by decide) ⟨rfl, rfl⟩ (List.mem_cons_of_mem _ cm_1107) dX11_run_97 ?_
              obtain ⟨p7, e_p7, h⟩ := md_ob h
              obtain ⟨hm8, hn8, h⟩ := cd_cks h
              have hM8 : p.2.2.1 ≤ p7.2.2.1 ∧ p.2.2.2 ≤ p7.2.2.2 := ⟨hm8, hn8⟩
              have hle7 := (kc_X1_goOn l D cA E sz ad _ hj oq sgq sgv hE n p5.2.1 (p5.2.2)  p7 e_p7).1
              refine hp_callVi (As := []) (rest := []) cx hw ((kc_X1_goOn l D cA E _ ad _ hj oq sgq sgv hE n p5.2.1 (p5.2.2)  p7 e_p7).2) (cwV 0 cx.2.2.2.2.2.1 (cd_giV cm_1197 cm_1198 cm_1199 cm_130 cm_1200) rfl rfl rfl hdc_X1_goOn ⟨Nat.le_of_ble_eq_true rfl, Nat.le_of_ble_eq_true rfl⟩) (cd_atO hj (by decide) (by decide)) rfl rfl hl.1 rfl (Nat.le_of_ble_eq_true rfl) dX11_run_100 ⟨by (try dsimp only); omega, by (try dsimp only); omega⟩ (fun r u H locs hp hw => ?_)
              obtain ⟨rfl, ca, hj, rfl⟩ := hp
              refine W.widen (k := b0.1 - p7.2.2.1) (n := b0.2 - p7.2.2.2) (by omega) (by omega) ?_
              exact hp_iret cx hw (cd_retb hj (congrArg some (Sum.inl.inj (Option.some.inj h)))) dX11_run_103 (cd_le1 (congrArg some (Sum.inl.inj (Option.some.inj h)))) (cd_le2 (congrArg some (Sum.inl.inj (Option.some.inj h))))
            · have h := md_in c70 h
              exact J73 _ hj p4.2 b0 _ _ _ (by omega) (by omega) (by omega) (by omega) h hw (lv_sub hl [] rfl)
        · have h := md_in c34 h
          exact J37 _ hj p3.2 b0 _ _ _ (by omega) (by omega) (by omega) (by omega) h hw (lv_sub hl [] rfl)
  · have h := md_ip c4 h
    obtain ⟨b9, e_b9, h⟩ := md_ob h
    exact nomatch Option.some.inj h
set_option maxHeartbeats 4000000 in
set_option maxRecDepth 100000 in
theorem kc_X11_result (l : Launch) (D : va_G) (cA : Nat → ClassId) (E : hp_N) (sz : Nat) (ad : Nat → Nat → Nat) (ca0 : Nat → Nat) (hj : cd_inj ad ca0) (oq sgq sgv : Nat) (hE : cd_E E oq sgq sgv) (n : Nat) (σ0 : cd_S) (a1 : Int32) (p : (Int32 × cd_S)) (h : f_X11_result n σ0 a1 = some p) : Met l yX11_result (Cond.code yX11_result cX11_result 2 (some .int) :: v_CLS) ({ frames := 2, cells := 0, slots := 0, locals := 41 }) (hp_Pc D vwCl (hp_Tl cA) E sz (cd_pic cA ad ca0 σ0) [.ref (ad 11 0), .int a1]) (hp_Qi D vwCl (hp_Tl cA) sz (cd_pic cA ad ca0 σ0) (fun r u => r = p.1 ∧ ∃ ca1, cd_inj ad ca1 ∧ u = cd_pic cA ad ca1 p.2)) 0 0 (hp_A (cd_pic cA ad ca0 σ0) sz) := by
  refine hp_ofW (cc := cX11_result) (maxL := 2) (ret := (some .int)) (by decide) rfl (Nat.le_of_ble_eq_true rfl) ?_
  intro pp ee ss mm bb mt cd ls cx hsz hw hl
  have hl : lv_has ls 2 [(0, .ref (ad 11 0)), (1, .int a1)] := hl
  refine lv_aload_n cx.1 cx.2.1 dX11_result_0 rfl (lv_at hl 0 rfl) ?_
  refine cd_gO (o2 := 1) (e2 := 0) (o := 11) (k := 7) (f := 359) hj cx hw hic11 rfl ⟨by decide, rfl, by decide, rfl⟩ rfl (by decide) ⟨rfl, rfl⟩ (List.mem_cons_of_mem _ cm_1107) dX11_result_1 ?_
  refine cd_gI (o := 1) (k := 19) (f := 51) hj cx hw hic1 rfl ⟨by decide, rfl, by decide, rfl⟩ rfl (by decide) (List.mem_cons_of_mem _ cm_1201) dX11_result_4 ?_
  refine lv_if_eq (tgt := 21) cx.1 cx.2.1 dX11_result_7 (by decide) (fun c7 => ?_) (fun c7 => ?_)
  · have h := md_ip c7 h
    refine lv_iconst (v := (-1)) cx.1 cx.2.1 dX11_result_21 (by decide) ?_
    exact hp_iret cx hw (cd_ret hj h) dX11_result_22
  · have h := md_in c7 h
    refine lv_aload_n cx.1 cx.2.1 dX11_result_10 rfl (lv_at hl 0 rfl) ?_
    refine cd_gO (o2 := 1) (e2 := 0) (o := 11) (k := 7) (f := 359) hj cx hw hic11 rfl ⟨by decide, rfl, by decide, rfl⟩ rfl (by decide) ⟨rfl, rfl⟩ (List.mem_cons_of_mem _ cm_1107) dX11_result_11 ?_
    refine lv_iload_n cx.1 cx.2.1 dX11_result_14 rfl (lv_at hl 1 rfl) ?_
    obtain ⟨p1, e_p1, h⟩ := md_ob h
    refine hp_callVi (As := [.int a1]) (rest := []) cx hw (kc_X1_tell l D cA E _ ad _ hj oq sgq sgv hE n σ0 a1 p1 e_p1) (cwV 1 cx.2.2.2.2.2.1 (cd_giV cm_1202 cm_1203 cm_1204 cm_130 cm_1205) rfl rfl rfl hdc_X1_tell ⟨Nat.le_of_ble_eq_true rfl, Nat.le_of_ble_eq_true rfl⟩) (cd_atO hj (by decide) (by decide)) rfl rfl hl.1 rfl (Nat.le_of_ble_eq_true rfl) dX11_result_15 ⟨Nat.le_refl _, Nat.le_refl _⟩ (fun r u H locs hp hw => ?_)
    obtain ⟨rfl, ca, hj, rfl⟩ := hp
    refine lv_goto (tgt := 22) cx.1 cx.2.1 dX11_result_18 (by decide) ?_
    exact hp_iret cx hw (cd_ret hj h) dX11_result_22
set_option maxHeartbeats 4000000 in
set_option maxRecDepth 100000 in
theorem kc_X11_event (l : Launch) (D : va_G) (cA : Nat → ClassId) (E : hp_N) (sz : Nat) (ad : Nat → Nat → Nat) (ca0 : Nat → Nat) (hj : cd_inj ad ca0) (oq sgq sgv : Nat) (hE : cd_E E oq sgq sgv) (n : Nat) (σ0 : cd_S) (a1 : Int32) (a2 : Int32) (p : (Int32 × cd_S)) (h : f_X11_event n σ0 a1 a2 = some p) : Met l yX11_event (Cond.code yX11_event cX11_event 3 (some .int) :: v_CLS) ({ frames := 2, cells := 0, slots := 0, locals := 43 }) (hp_Pc D vwCl (hp_Tl cA) E sz (cd_pic cA ad ca0 σ0) [.ref (ad 11 0), .int a1, .int a2]) (hp_Qi D vwCl (hp_Tl cA) sz (cd_pic cA ad ca0 σ0) (fun r u => r = p.1 ∧ ∃ ca1, cd_inj ad ca1 ∧ u = cd_pic cA ad ca1 p.2)) 0 0 (hp_A (cd_pic cA ad ca0 σ0) sz) := by
  refine hp_ofW (cc := cX11_event) (maxL := 3) (ret := (some .int)) (by decide) rfl (Nat.le_of_ble_eq_true rfl) ?_
  intro pp ee ss mm bb mt cd ls cx hsz hw hl
  have hl : lv_has ls 3 [(0, .ref (ad 11 0)), (1, .int a1), (2, .int a2)] := hl
  refine lv_aload_n cx.1 cx.2.1 dX11_event_0 rfl (lv_at hl 0 rfl) ?_
  refine cd_gO (o2 := 1) (e2 := 0) (o := 11) (k := 7) (f := 359) hj cx hw hic11 rfl ⟨by decide, rfl, by decide, rfl⟩ rfl (by decide) ⟨rfl, rfl⟩ (List.mem_cons_of_mem _ cm_1107) dX11_event_1 ?_
  refine cd_gI (o := 1) (k := 19) (f := 51) hj cx hw hic1 rfl ⟨by decide, rfl, by decide, rfl⟩ rfl (by decide) (List.mem_cons_of_mem _ cm_1201) dX11_event_4 ?_
  refine lv_if_eq (tgt := 22) cx.1 cx.2.1 dX11_event_7 (by decide) (fun c7 => ?_) (fun c7 => ?_)
  · have h := md_ip c7 h
    refine lv_iconst (v := (-1)) cx.1 cx.2.1 dX11_event_22 (by decide) ?_
    exact hp_iret cx hw (cd_ret hj h) dX11_event_23
  · have h := md_in c7 h
    refine lv_aload_n cx.1 cx.2.1 dX11_event_10 rfl (lv_at hl 0 rfl) ?_
    refine cd_gO (o2 := 1) (e2 := 0) (o := 11) (k := 7) (f := 359) hj cx hw hic11 rfl ⟨by decide, rfl, by decide, rfl⟩ rfl (by decide) ⟨rfl, rfl⟩ (List.mem_cons_of_mem _ cm_1107) dX11_event_11 ?_
    refine lv_iload_n cx.1 cx.2.1 dX11_event_14 rfl (lv_at hl 1 rfl) ?_
    refine lv_iload_n cx.1 cx.2.1 dX11_event_15 rfl (lv_at hl 2 rfl) ?_
    obtain ⟨p1, e_p1, h⟩ := md_ob h
    refine hp_callVi (As := [.int a1, .int a2]) (rest := []) cx hw (kc_X1_tellEvent l D cA E _ ad _ hj oq sgq sgv hE n σ0 a1 a2 p1 e_p1) (cwV 2 cx.2.2.2.2.2.1 (cd_giV cm_1206 cm_1207 cm_1208 cm_130 cm_1209) rfl rfl rfl hdc_X1_tellEvent ⟨Nat.le_of_ble_eq_true rfl, Nat.le_of_ble_eq_true rfl⟩) (cd_atO hj (by decide) (by decide)) rfl rfl hl.1 rfl (Nat.le_of_ble_eq_true rfl) dX11_event_16 ⟨Nat.le_refl _, Nat.le_refl _⟩ (fun r u H locs hp hw => ?_)
    obtain ⟨rfl, ca, hj, rfl⟩ := hp
    refine lv_goto (tgt := 23) cx.1 cx.2.1 dX11_event_19 (by decide) ?_
    exact hp_iret cx hw (cd_ret hj h) dX11_event_23
set_option maxHeartbeats 4000000 in
set_option maxRecDepth 100000 in
theorem kc_X11_thread (l : Launch) (D : va_G) (cA : Nat → ClassId) (E : hp_N) (sz : Nat) (ad : Nat → Nat → Nat) (ca0 : Nat → Nat) (hj : cd_inj ad ca0) (oq sgq sgv : Nat) (hE : cd_E E oq sgq sgv) (n : Nat) (σ0 : cd_S) (a1 : Int32) (a2 : Int32) (p : (Int32 × cd_S)) (h : f_X11_thread n σ0 a1 a2 = some p) : Met l yX11_thread (Cond.code yX11_thread cX11_thread 3 (some .int) :: v_CLS) ({ frames := 3, cells := 0, slots := 0, locals := 66 }) (hp_Pc D vwCl (hp_Tl cA) E sz (cd_pic cA ad ca0 σ0) [.ref (ad 11 0), .int a1, .int a2]) (hp_Qi D vwCl (hp_Tl cA) sz (cd_pic cA ad ca0 σ0) (fun r u => r = p.1 ∧ ∃ ca1, cd_inj ad ca1 ∧ u = cd_pic cA ad ca1 p.2)) 0 0 (hp_A (cd_pic cA ad ca0 σ0) sz) := by
  refine hp_ofW (cc := cX11_thread) (maxL := 3) (ret := (some .int)) (by decide) rfl (Nat.le_of_ble_eq_true rfl) ?_
  intro pp ee ss mm bb mt cd ls cx hsz hw hl
  have hl : lv_has ls 3 [(0, .ref (ad 11 0)), (1, .int a1), (2, .int a2)] := hl
  refine lv_aload_n cx.1 cx.2.1 dX11_thread_0 rfl (lv_at hl 0 rfl) ?_
  refine cd_gO (o2 := 1) (e2 := 0) (o := 11) (k := 7) (f := 359) hj cx hw hic11 rfl ⟨by decide, rfl, by decide, rfl⟩ rfl (by decide) ⟨rfl, rfl⟩ (List.mem_cons_of_mem _ cm_1107) dX11_thread_1 ?_
  refine cd_gI (o := 1) (k := 19) (f := 51) hj cx hw hic1 rfl ⟨by decide, rfl, by decide, rfl⟩ rfl (by decide) (List.mem_cons_of_mem _ cm_1201) dX11_thread_4 ?_
  refine lv_if_eq (tgt := 22) cx.1 cx.2.1 dX11_thread_7 (by decide) (fun c7 => ?_) (fun c7 => ?_)
  · have h := md_ip c7 h
    refine lv_iconst (v := (-1)) cx.1 cx.2.1 dX11_thread_22 (by decide) ?_
    exact hp_iret cx hw (cd_ret hj h) dX11_thread_23
  · have h := md_in c7 h
    refine lv_aload_n cx.1 cx.2.1 dX11_thread_10 rfl (lv_at hl 0 rfl) ?_
    refine cd_gO (o2 := 1) (e2 := 0) (o := 11) (k := 7) (f := 359) hj cx hw hic11 rfl ⟨by decide, rfl, by decide, rfl⟩ rfl (by decide) ⟨rfl, rfl⟩ (List.mem_cons_of_mem _ cm_1107) dX11_thread_11 ?_
    refine lv_iload_n cx.1 cx.2.1 dX11_thread_14 rfl (lv_at hl 1 rfl) ?_
    refine lv_iload_n cx.1 cx.2.1 dX11_thread_15 rfl (lv_at hl 2 rfl) ?_
    obtain ⟨p1, e_p1, h⟩ := md_ob h
    refine hp_callVi (As := [.int a1, .int a2]) (rest := []) cx hw (kc_X1_tellThread l D cA E _ ad _ hj oq sgq sgv hE n σ0 a1 a2 p1 e_p1) (cwV 2 cx.2.2.2.2.2.1 (cd_giV cm_1210 cm_1211 cm_1212 cm_130 cm_1213) rfl rfl rfl hdc_X1_tellThread ⟨Nat.le_of_ble_eq_true rfl, Nat.le_of_ble_eq_true rfl⟩) (cd_atO hj (by decide) (by decide)) rfl rfl hl.1 rfl (Nat.le_of_ble_eq_true rfl) dX11_thread_16 ⟨Nat.le_refl _, Nat.le_refl _⟩ (fun r u H locs hp hw => ?_)
    obtain ⟨rfl, ca, hj, rfl⟩ := hp
    refine lv_goto (tgt := 23) cx.1 cx.2.1 dX11_thread_19 (by decide) ?_
    exact hp_iret cx hw (cd_ret hj h) dX11_thread_23
set_option maxHeartbeats 4000000 in
set_option maxRecDepth 100000 in
theorem kc_X11_context (l : Launch) (D : va_G) (cA : Nat → ClassId) (E : hp_N) (sz : Nat) (ad : Nat → Nat → Nat) (ca0 : Nat → Nat) (hj : cd_inj ad ca0) (oq sgq sgv : Nat) (hE : cd_E E oq sgq sgv) (n : Nat) (σ0 : cd_S) (a1 : Int32) (a2 : Int32) (p : (Int32 × cd_S)) (h : f_X11_context n σ0 a1 a2 = some p) : Met l yX11_context (Cond.code yX11_context cX11_context 3 (some .int) :: v_CLS) ({ frames := 3, cells := 0, slots := 0, locals := 65 }) (hp_Pc D vwCl (hp_Tl cA) E sz (cd_pic cA ad ca0 σ0) [.ref (ad 11 0), .int a1, .int a2]) (hp_Qi D vwCl (hp_Tl cA) sz (cd_pic cA ad ca0 σ0) (fun r u => r = p.1 ∧ ∃ ca1, cd_inj ad ca1 ∧ u = cd_pic cA ad ca1 p.2)) 0 0 (hp_A (cd_pic cA ad ca0 σ0) sz) := by
  refine hp_ofW (cc := cX11_context) (maxL := 3) (ret := (some .int)) (by decide) rfl (Nat.le_of_ble_eq_true rfl) ?_
  intro pp ee ss mm bb mt cd ls cx hsz hw hl
  have hl : lv_has ls 3 [(0, .ref (ad 11 0)), (1, .int a1), (2, .int a2)] := hl
  refine lv_aload_n cx.1 cx.2.1 dX11_context_0 rfl (lv_at hl 0 rfl) ?_
  refine cd_gO (o2 := 1) (e2 := 0) (o := 11) (k := 7) (f := 359) hj cx hw hic11 rfl ⟨by decide, rfl, by decide, rfl⟩ rfl (by decide) ⟨rfl, rfl⟩ (List.mem_cons_of_mem _ cm_1107) dX11_context_1 ?_
  refine cd_gI (o := 1) (k := 19) (f := 51) hj cx hw hic1 rfl ⟨by decide, rfl, by decide, rfl⟩ rfl (by decide) (List.mem_cons_of_mem _ cm_1201) dX11_context_4 ?_
  refine lv_if_eq (tgt := 22) cx.1 cx.2.1 dX11_context_7 (by decide) (fun c7 => ?_) (fun c7 => ?_)
  · have h := md_ip c7 h
    refine lv_iconst (v := (-1)) cx.1 cx.2.1 dX11_context_22 (by decide) ?_
    exact hp_iret cx hw (cd_ret hj h) dX11_context_23
  · have h := md_in c7 h
    refine lv_aload_n cx.1 cx.2.1 dX11_context_10 rfl (lv_at hl 0 rfl) ?_
    refine cd_gO (o2 := 1) (e2 := 0) (o := 11) (k := 7) (f := 359) hj cx hw hic11 rfl ⟨by decide, rfl, by decide, rfl⟩ rfl (by decide) ⟨rfl, rfl⟩ (List.mem_cons_of_mem _ cm_1107) dX11_context_11 ?_
    refine lv_iload_n cx.1 cx.2.1 dX11_context_14 rfl (lv_at hl 1 rfl) ?_
    refine lv_iload_n cx.1 cx.2.1 dX11_context_15 rfl (lv_at hl 2 rfl) ?_
    obtain ⟨p1, e_p1, h⟩ := md_ob h
    refine hp_callVi (As := [.int a1, .int a2]) (rest := []) cx hw (kc_X1_tellContext l D cA E _ ad _ hj oq sgq sgv hE n σ0 a1 a2 p1 e_p1) (cwV 2 cx.2.2.2.2.2.1 (cd_giV cm_1214 cm_1215 cm_1216 cm_130 cm_1217) rfl rfl rfl hdc_X1_tellContext ⟨Nat.le_of_ble_eq_true rfl, Nat.le_of_ble_eq_true rfl⟩) (cd_atO hj (by decide) (by decide)) rfl rfl hl.1 rfl (Nat.le_of_ble_eq_true rfl) dX11_context_16 ⟨Nat.le_refl _, Nat.le_refl _⟩ (fun r u H locs hp hw => ?_)
    obtain ⟨rfl, ca, hj, rfl⟩ := hp
    refine lv_goto (tgt := 23) cx.1 cx.2.1 dX11_context_19 (by decide) ?_
    exact hp_iret cx hw (cd_ret hj h) dX11_context_23
