set_option maxHeartbeats 4000000 in
set_option maxRecDepth 100000 in
theorem kx_X4_readAsking (l : Launch) (D : va_G) (cA : Nat → ClassId) (E : hp_N) (sz : Nat) (ad : Nat → Nat → Nat) (ca0 : Nat → Nat) (hj : cd_inj ad ca0) (oq sgq sgv : Nat) (hE : cd_E E oq sgq sgv) (hX : cd_X l E) (n d : Nat) (rec : cd_R) (in0 : ∀ (sz : Nat) (ca : Nat → Nat) (_ : cd_inj ad ca) (σ : cd_S) (b : cd_B) (a1 : Int32) (p : Int32 × cd_S × cd_B), rec 0 0 a1 0 σ b = some (Sum.inl p) → (p.2.2.1 ≤ b.1 ∧ p.2.2.2 ≤ b.2) ∧ Met l yX4_readExpression (Cond.code yX4_readExpression cX4_readExpression 2 none :: v_CLS) ({ frames := d + 16, cells := b.1 - p.2.2.1, slots := b.2 - p.2.2.2, locals := 26 * d + 286 }) (hp_Pc D vwCl (hp_Tl cA) E sz (cd_pic cA ad ca σ) [.ref (ad 4 0), .int a1]) (hp_Qv D vwCl (hp_Tl cA) sz (cd_pic cA ad ca σ) (fun u => ∃ ca1, cd_inj ad ca1 ∧ u = cd_pic cA ad ca1 p.2.1)) (b.1 - p.2.2.1) (b.2 - p.2.2.2) (hp_A (cd_pic cA ad ca σ) sz)) (ix0 : ∀ (sz : Nat) (ca : Nat → Nat) (_ : cd_inj ad ca) (σ : cd_S) (b : cd_B) (a1 : Int32) (p : cd_S × cd_B), rec 0 0 a1 0 σ b = some (Sum.inr p) → (p.2.1 ≤ b.1 ∧ p.2.2 ≤ b.2) ∧ vx_Met l yX4_readExpression (Cond.code yX4_readExpression cX4_readExpression 2 none :: v_CLS) ({ frames := d + 16, cells := b.1 - p.2.1, slots := b.2 - p.2.2, locals := 26 * d + 286 }) (hp_Pc D vwCl (hp_Tl cA) E sz (cd_pic cA ad ca σ) [.ref (ad 4 0), .int a1]) (hp_Qv D vwCl (hp_Tl cA) sz (cd_pic cA ad ca σ) (fun _ => False)) (hp_XQ D vwCl (hp_Tl cA) "java/lang/IllegalArgumentException" (cd_pic cA ad ca σ) sz (fun u => ∃ ca1, cd_inj ad ca1 ∧ u = cd_pic cA ad ca1 p.1)) (b.1 - p.2.1) (b.2 - p.2.2) (hp_A (cd_pic cA ad ca σ) sz)) (σ0 : cd_S) (b0 : cd_B) (a1 : Int32) (a2 : Int32) (p : (cd_S × cd_B)) (h : f_X4_readAsking n rec σ0 b0 a1 a2 = some (Sum.inr p)) : (p.2.1 ≤ b0.1 ∧ p.2.2 ≤ b0.2) ∧ vx_Met l yX4_readAsking (Cond.code yX4_readAsking cX4_readAsking 4 none :: v_CLS) ({ frames := (d + 1) + 16, cells := b0.1 - p.2.1, slots := b0.2 - p.2.2, locals := 26 * (d + 1) + 286 }) (hp_Pc D vwCl (hp_Tl cA) E sz (cd_pic cA ad ca0 σ0) [.ref (ad 4 0), .int a1, .int a2]) (hp_Qv D vwCl (hp_Tl cA) sz (cd_pic cA ad ca0 σ0) (fun _ => False)) (hp_XQ D vwCl (hp_Tl cA) "java/lang/IllegalArgumentException" (cd_pic cA ad ca0 σ0) sz (fun u => ∃ ca1, cd_inj ad ca1 ∧ u = cd_pic cA ad ca1 p.1)) (b0.1 - p.2.1) (b0.2 - p.2.2) (hp_A (cd_pic cA ad ca0 σ0) sz) := by
  obtain ⟨hm0, hn0, h⟩ := cd_cks h
  have hM0 : p.2.1 ≤ b0.1 ∧ p.2.2 ≤ b0.2 := ⟨hm0, hn0⟩
  refine ⟨hM0, ?_⟩
  refine hp_ofWx (cc := cX4_readAsking) (maxL := 4) (ret := none) (by decide) rfl (Nat.le_of_ble_eq_true rfl) ?_
  intro pp ee ss mm bb mt cd ls cx hsz hw hl hno
  have hl : lv_has ls 4 [(0, .ref (ad 4 0)), (1, .int a1), (2, .int a2)] := hl
  refine W.widen (k := b0.1 - b0.1) (n := b0.2 - b0.2) (Nat.zero_le _) (Nat.zero_le _) ?_
  have J129 : ∀ (ca : Nat → Nat) (hj : cd_inj ad ca) (σ : cd_S) (b : cd_B) (l1 : Int32) (l3 : Int32) (H : Heap) (locs : List Loc) (ls : Array Slot), b.1 ≤ b0.1 → b.2 ≤ b0.2 → p.2.1 ≤ b.1 → p.2.2 ≤ b.2 → f_X4_readAsking_J129 n rec σ b l1 l3 = some (Sum.inr p) → hp_w D vwCl (hp_Tl cA) E (hp_A (cd_pic cA ad ca0 σ0) sz) ss H locs (cd_pic cA ad ca σ) → lv_has ls 4 [(0, .ref (ad 4 0)), (1, .int l1), (3, .int l3)] → W pp l ee ({ frames := (d + 1) + 16, cells := b0.1 - p.2.1, slots := b0.2 - p.2.2, locals := 26 * (d + 1) + 286 }) ss mm [.ref (ad 4 0), .int a1, .int a2].toArray bb mt cd H locs (b0.1 - b.1) (b0.2 - b.2) (vx_MQ bb (hp_Qv D vwCl (hp_Tl cA) sz (cd_pic cA ad ca0 σ0) (fun _ => False)) (hp_XQ D vwCl (hp_Tl cA) "java/lang/IllegalArgumentException" (cd_pic cA ad ca0 σ0) sz (fun u => ∃ ca1, cd_inj ad ca1 ∧ u = cd_pic cA ad ca1 p.1)) [.ref (ad 4 0), .int a1, .int a2].toArray ss (b0.1 - p.2.1) (b0.2 - p.2.2) (hp_A (cd_pic cA ad ca0 σ0) sz)) (F0 mm 129 ls []) := by
    intro ca hj σ b l1 l3 H locs ls hb1 hb2 hf1 hf2 h hw hl
    refine lv_aload_n cx.1 cx.2.1 dX4_readAsking_129 rfl (lv_at hl 0 rfl) ?_
    obtain ⟨u1, e_u1, h⟩ := md_ob h
    have hb_u1 : u1 < 60 := (cd_dps e_u1).2
    refine cd_gP (o2 := 9) (u := u1) (o := 4) (k := 8) (f := 136) hj cx hw hic4 rfl ⟨by decide, rfl, by decide, rfl⟩ rfl (by decide) rfl e_u1 (List.mem_cons_of_mem _ cm_749) dX4_readAsking_130 ?_
    refine lv_iload_n cx.1 cx.2.1 dX4_readAsking_133 rfl (lv_at hl 1 rfl) ?_
    refine lv_iload_n cx.1 cx.2.1 dX4_readAsking_134 rfl (lv_at hl 2 rfl) ?_
    refine lv_iconst (v := 0) cx.1 cx.2.1 dX4_readAsking_135 (by decide) ?_
    obtain ⟨p2, e_p2, h⟩ := md_ob h
    obtain ⟨hm3, hn3, h⟩ := cd_cks h
    have hM3 : p.2.1 ≤ p2.2.2.1 ∧ p.2.2 ≤ p2.2.2.2 := ⟨hm3, hn3⟩
    have hle2 := (kc_X9_emit l D cA E sz ad _ hj oq sgq sgv hE n σ b u1 l1 l3 (0 : Int32) (show _ < 60 by omega) p2 e_p2).1
    refine hp_callVv (As := [.int l1, .int l3, .int 0]) (rest := []) cx hw ((kc_X9_emit l D cA E _ ad _ hj oq sgq sgv hE n σ b u1 l1 l3 (0 : Int32) (show _ < 60 by omega) p2 e_p2).2) (cwV 3 cx.2.2.2.2.2.1 (cd_giV cm_781 cm_782 cm_783 cm_114 cm_784) rfl rfl rfl hdc_X9_emit ⟨by (try dsimp only); omega, by (try dsimp only); omega⟩) (cd_atO hj (by decide) (show _ < 60 by omega)) rfl rfl hl.1 rfl (Nat.le_of_ble_eq_true rfl) dX4_readAsking_136 ⟨by (try dsimp only); omega, by (try dsimp only); omega⟩ (fun u H locs hp hw => ?_)
    obtain ⟨ca, hj, rfl⟩ := hp
    refine W.widen (k := b0.1 - p2.2.2.1) (n := b0.2 - p2.2.2.2) (by omega) (by omega) ?_
    exact nomatch Option.some.inj h
  have J22 : ∀ (ca : Nat → Nat) (hj : cd_inj ad ca) (σ : cd_S) (b : cd_B) (l1 : Int32) (l2 : Int32) (t0 : Int32) (H : Heap) (locs : List Loc) (ls : Array Slot), b.1 ≤ b0.1 → b.2 ≤ b0.2 → p.2.1 ≤ b.1 → p.2.2 ≤ b.2 → f_X4_readAsking_J22 n rec σ b l1 l2 t0 = some (Sum.inr p) → hp_w D vwCl (hp_Tl cA) E (hp_A (cd_pic cA ad ca0 σ0) sz) ss H locs (cd_pic cA ad ca σ) → lv_has ls 4 [(0, .ref (ad 4 0)), (1, .int l1), (2, .int l2)] → W pp l ee ({ frames := (d + 1) + 16, cells := b0.1 - p.2.1, slots := b0.2 - p.2.2, locals := 26 * (d + 1) + 286 }) ss mm [.ref (ad 4 0), .int a1, .int a2].toArray bb mt cd H locs (b0.1 - b.1) (b0.2 - b.2) (vx_MQ bb (hp_Qv D vwCl (hp_Tl cA) sz (cd_pic cA ad ca0 σ0) (fun _ => False)) (hp_XQ D vwCl (hp_Tl cA) "java/lang/IllegalArgumentException" (cd_pic cA ad ca0 σ0) sz (fun u => ∃ ca1, cd_inj ad ca1 ∧ u = cd_pic cA ad ca1 p.1)) [.ref (ad 4 0), .int a1, .int a2].toArray ss (b0.1 - p.2.1) (b0.2 - p.2.2) (hp_A (cd_pic cA ad ca0 σ0) sz)) (F0 mm 22 ls [.int t0, .ref (ad 4 0)]) := by
    intro ca hj σ b l1 l2 t0 H locs ls hb1 hb2 hf1 hf2 h hw hl
    obtain ⟨q4, e_q4, h⟩ := md_ob h
    obtain ⟨hm5, hn5, h⟩ := cd_cks h
    have hM5 : p.2.1 ≤ (Sum.elim (fun (p : Int32 × cd_S × cd_B) => p.2.2) (fun (t : cd_S × cd_B) => t.2) q4).1 ∧ p.2.2 ≤ (Sum.elim (fun (p : Int32 × cd_S × cd_B) => p.2.2) (fun (t : cd_S × cd_B) => t.2) q4).2 := ⟨hm5, hn5⟩
    cases q4 with
    | inr t4 =>
      obtain rfl : t4 = p := Sum.inr.inj (Option.some.inj h)
      have hlx4 := (kx_X4_room l D cA E sz ad _ hj oq sgq sgv hE hX n σ b t0 t4 e_q4).1
      exact hp_callQv (As := [.int t0]) (rest := []) cx hw hno ((kx_X4_room l D cA E _ ad _ hj oq sgq sgv hE hX n σ b t0 t4 e_q4).2) (cwV 1 cx.2.2.2.2.2.1 (cd_giV cm_691 cm_692 cm_693 cm_663 cm_694) rfl rfl rfl hdc_X4_room ⟨by (try dsimp only); omega, by (try dsimp only); omega⟩) (cd_atO hj (by decide) (by decide)) rfl rfl hl.1 rfl (Nat.le_of_ble_eq_true rfl) dX4_readAsking_22 ⟨by (try dsimp only); omega, by (try dsimp only); omega⟩ (by omega) (by omega)
    | inl p4 =>
      have hle4 := (kc_X4_room l D cA E sz ad _ hj oq sgq sgv hE n σ b t0 p4 e_q4).1
      have hM10005 : p.2.1 ≤ p4.2.2.1 ∧ p.2.2 ≤ p4.2.2.2 := hM5
      have h := cd_inl h
      refine hp_callVv (As := [.int t0]) (rest := []) cx hw ((kc_X4_room l D cA E _ ad _ hj oq sgq sgv hE n σ b t0 p4 e_q4).2) (cwV 1 cx.2.2.2.2.2.1 (cd_giV cm_691 cm_692 cm_693 cm_663 cm_694) rfl rfl rfl hdc_X4_room ⟨by (try dsimp only); omega, by (try dsimp only); omega⟩) (cd_atO hj (by decide) (by decide)) rfl rfl hl.1 rfl (Nat.le_of_ble_eq_true rfl) dX4_readAsking_22 ⟨by (try dsimp only); omega, by (try dsimp only); omega⟩ (fun u H locs hp hw => ?_)
      obtain ⟨ca, hj, rfl⟩ := hp
      refine W.widen (k := b0.1 - p4.2.2.1) (n := b0.2 - p4.2.2.2) (by omega) (by omega) ?_
      refine lv_aload_n cx.1 cx.2.1 dX4_readAsking_25 rfl (lv_at hl 0 rfl) ?_
      refine cd_gO (o2 := 3) (e2 := 0) (o := 4) (k := 2) (f := 130) hj cx hw hic4 rfl ⟨by decide, rfl, by decide, rfl⟩ rfl (by decide) ⟨rfl, rfl⟩ (List.mem_cons_of_mem _ cm_701) dX4_readAsking_26 ?_
      refine cd_gI (o := 3) (k := 13) (f := 109) hj cx hw hic3 rfl ⟨by decide, rfl, by decide, rfl⟩ rfl (by decide) (List.mem_cons_of_mem _ cm_768) dX4_readAsking_29 ?_
      refine lv_istore_n (lv' := [(3, .int (cI p4.2.1 109 0)), (0, .ref (ad 4 0)), (1, .int l1), (2, .int l2)]) cx.1 cx.2.1 dX4_readAsking_32 rfl hl (by decide) rfl (fun ls hl => ?_)
      refine lv_aload_n cx.1 cx.2.1 dX4_readAsking_33 rfl (lv_at hl 1 rfl) ?_
      refine cd_gO (o2 := 3) (e2 := 0) (o := 4) (k := 2) (f := 130) hj cx hw hic4 rfl ⟨by decide, rfl, by decide, rfl⟩ rfl (by decide) ⟨rfl, rfl⟩ (List.mem_cons_of_mem _ cm_701) dX4_readAsking_34 ?_
      obtain ⟨p6, e_p6, h⟩ := md_ob h
      refine hp_callVv (As := []) (rest := []) cx hw (kc_X3_addAsking l D cA E _ ad _ hj oq sgq sgv hE n p4.2.1  p6 e_p6) (cwV 0 cx.2.2.2.2.2.1 (cd_giV cm_769 cm_770 cm_771 cm_332 cm_772) rfl rfl rfl hdc_X3_addAsking ⟨by (try dsimp only); omega, by (try dsimp only); omega⟩) (cd_atO hj (by decide) (by decide)) rfl rfl hl.1 rfl (Nat.le_of_ble_eq_true rfl) dX4_readAsking_37 ⟨by (try dsimp only); omega, by (try dsimp only); omega⟩ (fun u H locs hp hw => ?_)
      obtain ⟨ca, hj, rfl⟩ := hp
      refine lv_aload_n cx.1 cx.2.1 dX4_readAsking_40 rfl (lv_at hl 1 rfl) ?_
      refine cd_gO (o2 := 10) (e2 := 0) (o := 4) (k := 0) (f := 128) hj cx hw hic4 rfl ⟨by decide, rfl, by decide, rfl⟩ rfl (by decide) ⟨rfl, rfl⟩ (List.mem_cons_of_mem _ cm_658) dX4_readAsking_41 ?_
      obtain ⟨p7, e_p7, h⟩ := md_ob h
      refine hp_callVv (As := []) (rest := []) cx hw (kc_X10_advance l D cA E _ ad _ hj oq sgq sgv hE n p6.2  p7 e_p7) (cwV 0 cx.2.2.2.2.2.1 (cd_giV cm_670 cm_671 cm_672 cm_301 cm_673) rfl rfl rfl hdc_X10_advance ⟨by (try dsimp only); omega, by (try dsimp only); omega⟩) (cd_atO hj (by decide) (by decide)) rfl rfl hl.1 rfl (Nat.le_of_ble_eq_true rfl) dX4_readAsking_44 ⟨by (try dsimp only); omega, by (try dsimp only); omega⟩ (fun u H locs hp hw => ?_)
      obtain ⟨ca, hj, rfl⟩ := hp
      refine lv_aload_n cx.1 cx.2.1 dX4_readAsking_47 rfl (lv_at hl 1 rfl) ?_
      obtain ⟨q8, e_q8, h⟩ := md_ob h
      obtain ⟨hm9, hn9, h⟩ := cd_cks h
      have hM9 : p.2.1 ≤ (Sum.elim (fun (p : Int32 × cd_S × cd_B) => p.2.2) (fun (t : cd_S × cd_B) => t.2) q8).1 ∧ p.2.2 ≤ (Sum.elim (fun (p : Int32 × cd_S × cd_B) => p.2.2) (fun (t : cd_S × cd_B) => t.2) q8).2 := ⟨hm9, hn9⟩
      cases q8 with
      | inr t8 =>
        obtain rfl : t8 = p := Sum.inr.inj (Option.some.inj h)
        have hlx8 := (kx_X4_needName l D cA E sz ad _ hj oq sgq sgv hE hX n p7.2 (p4.2.2)  t8 e_q8).1
        exact hp_callQv (As := []) (rest := []) cx hw hno ((kx_X4_needName l D cA E _ ad _ hj oq sgq sgv hE hX n p7.2 (p4.2.2)  t8 e_q8).2) (cwV 0 cx.2.2.2.2.2.1 (cd_giV cm_687 cm_688 cm_689 cm_663 cm_690) rfl rfl rfl hdc_X4_needName ⟨by (try dsimp only); omega, by (try dsimp only); omega⟩) (cd_atO hj (by decide) (by decide)) rfl rfl hl.1 rfl (Nat.le_of_ble_eq_true rfl) dX4_readAsking_48 ⟨by (try dsimp only); omega, by (try dsimp only); omega⟩ (by omega) (by omega)
      | inl p8 =>
        have hle8 := (kc_X4_needName l D cA E sz ad _ hj oq sgq sgv hE n p7.2 (p4.2.2)  p8 e_q8).1
        have hM10009 : p.2.1 ≤ p8.2.2.1 ∧ p.2.2 ≤ p8.2.2.2 := hM9
        have h := cd_inl h
        refine hp_callVv (As := []) (rest := []) cx hw ((kc_X4_needName l D cA E _ ad _ hj oq sgq sgv hE n p7.2 (p4.2.2)  p8 e_q8).2) (cwV 0 cx.2.2.2.2.2.1 (cd_giV cm_687 cm_688 cm_689 cm_663 cm_690) rfl rfl rfl hdc_X4_needName ⟨by (try dsimp only); omega, by (try dsimp only); omega⟩) (cd_atO hj (by decide) (by decide)) rfl rfl hl.1 rfl (Nat.le_of_ble_eq_true rfl) dX4_readAsking_48 ⟨by (try dsimp only); omega, by (try dsimp only); omega⟩ (fun u H locs hp hw => ?_)
        obtain ⟨ca, hj, rfl⟩ := hp
        refine W.widen (k := b0.1 - p8.2.2.1) (n := b0.2 - p8.2.2.2) (by omega) (by omega) ?_
        refine lv_aload_n cx.1 cx.2.1 dX4_readAsking_51 rfl (lv_at hl 1 rfl) ?_
        refine cd_gO (o2 := 5) (e2 := 193) (o := 4) (k := 3) (f := 131) hj cx hw hic4 rfl ⟨by decide, rfl, by decide, rfl⟩ rfl (by decide) ⟨rfl, rfl⟩ (List.mem_cons_of_mem _ cm_682) dX4_readAsking_52 ?_
        refine lv_aload_n cx.1 cx.2.1 dX4_readAsking_55 rfl (lv_at hl 1 rfl) ?_
        refine cd_gO (o2 := 10) (e2 := 0) (o := 4) (k := 0) (f := 128) hj cx hw hic4 rfl ⟨by decide, rfl, by decide, rfl⟩ rfl (by decide) ⟨rfl, rfl⟩ (List.mem_cons_of_mem _ cm_658) dX4_readAsking_56 ?_
        refine cd_gJ (o := 10) (k := 10) (f := 330) hj cx hw hic10 rfl ⟨by decide, rfl, by decide, rfl⟩ rfl (by decide) (List.mem_cons_of_mem _ cm_695) dX4_readAsking_59 ?_
        obtain ⟨σ10, e_σ10, h⟩ := md_ob h
        refine cd_pJ (o := 5) (k := 0) (f := 160) hj cx hw hic5 rfl ⟨by decide, rfl, by decide, rfl⟩ tyX5_ok nmX5 rfl (by decide) rfl (List.mem_cons_of_mem _ cm_696) rfl e_σ10 dX4_readAsking_62 (fun H locs hw => ?_)
        refine lv_aload_n cx.1 cx.2.1 dX4_readAsking_65 rfl (lv_at hl 1 rfl) ?_
        refine cd_gO (o2 := 10) (e2 := 0) (o := 4) (k := 0) (f := 128) hj cx hw hic4 rfl ⟨by decide, rfl, by decide, rfl⟩ rfl (by decide) ⟨rfl, rfl⟩ (List.mem_cons_of_mem _ cm_658) dX4_readAsking_66 ?_
        obtain ⟨p11, e_p11, h⟩ := md_ob h
        refine hp_callVv (As := []) (rest := []) cx hw (kc_X10_advance l D cA E _ ad _ hj oq sgq sgv hE n σ10  p11 e_p11) (cwV 0 cx.2.2.2.2.2.1 (cd_giV cm_670 cm_671 cm_672 cm_301 cm_673) rfl rfl rfl hdc_X10_advance ⟨by (try dsimp only); omega, by (try dsimp only); omega⟩) (cd_atO hj (by decide) (by decide)) rfl rfl hl.1 rfl (Nat.le_of_ble_eq_true rfl) dX4_readAsking_69 ⟨by (try dsimp only); omega, by (try dsimp only); omega⟩ (fun u H locs hp hw => ?_)
        obtain ⟨ca, hj, rfl⟩ := hp
        refine lv_aload_n cx.1 cx.2.1 dX4_readAsking_72 rfl (lv_at hl 1 rfl) ?_
        refine lv_iconst (v := 1) cx.1 cx.2.1 dX4_readAsking_73 (by decide) ?_
        obtain ⟨q12, e_q12, h⟩ := md_ob h
        obtain ⟨hm13, hn13, h⟩ := cd_cks h
        have hM13 : p.2.1 ≤ (Sum.elim (fun (p : Int32 × cd_S × cd_B) => p.2.2) (fun (t : cd_S × cd_B) => t.2) q12).1 ∧ p.2.2 ≤ (Sum.elim (fun (p : Int32 × cd_S × cd_B) => p.2.2) (fun (t : cd_S × cd_B) => t.2) q12).2 := ⟨hm13, hn13⟩
        cases q12 with
        | inr t12 =>
          obtain rfl : t12 = p := Sum.inr.inj (Option.some.inj h)
          have hlx12 := (kx_X4_takePattern l D cA E sz ad _ hj oq sgq sgv hE hX n p11.2 (p8.2.2) (1 : Int32) t12 e_q12).1
          exact hp_callQv (As := [.int 1]) (rest := []) cx hw hno ((kx_X4_takePattern l D cA E _ ad _ hj oq sgq sgv hE hX n p11.2 (p8.2.2) (1 : Int32) t12 e_q12).2) (cwV 1 cx.2.2.2.2.2.1 (cd_giV cm_697 cm_698 cm_699 cm_663 cm_700) rfl rfl rfl hdc_X4_takePattern ⟨by (try dsimp only); omega, by (try dsimp only); omega⟩) (cd_atO hj (by decide) (by decide)) rfl rfl hl.1 rfl (Nat.le_of_ble_eq_true rfl) dX4_readAsking_74 ⟨by (try dsimp only); omega, by (try dsimp only); omega⟩ (by omega) (by omega)
        | inl p12 =>
          have hle12 := (kc_X4_takePattern l D cA E sz ad _ hj oq sgq sgv hE n p11.2 (p8.2.2) (1 : Int32) p12 e_q12).1
          have hM10013 : p.2.1 ≤ p12.2.2.1 ∧ p.2.2 ≤ p12.2.2.2 := hM13
          have h := cd_inl h
          refine hp_callVv (As := [.int 1]) (rest := []) cx hw ((kc_X4_takePattern l D cA E _ ad _ hj oq sgq sgv hE n p11.2 (p8.2.2) (1 : Int32) p12 e_q12).2) (cwV 1 cx.2.2.2.2.2.1 (cd_giV cm_697 cm_698 cm_699 cm_663 cm_700) rfl rfl rfl hdc_X4_takePattern ⟨by (try dsimp only); omega, by (try dsimp only); omega⟩) (cd_atO hj (by decide) (by decide)) rfl rfl hl.1 rfl (Nat.le_of_ble_eq_true rfl) dX4_readAsking_74 ⟨by (try dsimp only); omega, by (try dsimp only); omega⟩ (fun u H locs hp hw => ?_)
          obtain ⟨ca, hj, rfl⟩ := hp
          refine W.widen (k := b0.1 - p12.2.2.1) (n := b0.2 - p12.2.2.2) (by omega) (by omega) ?_
          refine lv_aload_n cx.1 cx.2.1 dX4_readAsking_77 rfl (lv_at hl 1 rfl) ?_
          refine cd_gO (o2 := 3) (e2 := 0) (o := 4) (k := 2) (f := 130) hj cx hw hic4 rfl ⟨by decide, rfl, by decide, rfl⟩ rfl (by decide) ⟨rfl, rfl⟩ (List.mem_cons_of_mem _ cm_701) dX4_readAsking_78 ?_
          refine lv_iload_n cx.1 cx.2.1 dX4_readAsking_81 rfl (lv_at hl 0 rfl) ?_
          refine lv_aload_n cx.1 cx.2.1 dX4_readAsking_82 rfl (lv_at hl 1 rfl) ?_
          refine cd_gO (o2 := 5) (e2 := 193) (o := 4) (k := 3) (f := 131) hj cx hw hic4 rfl ⟨by decide, rfl, by decide, rfl⟩ rfl (by decide) ⟨rfl, rfl⟩ (List.mem_cons_of_mem _ cm_682) dX4_readAsking_83 ?_
          obtain ⟨p14, e_p14, h⟩ := md_ob h
          refine hp_callVv (As := [.int (cI p4.2.1 109 0), .ref (ad 5 193)]) (rest := []) cx hw (kc_X3_setAsking l D cA E _ ad _ hj oq sgq sgv hE n p12.2.1 ((cI p4.2.1 109 0)) 193 (by decide) p14 e_p14) (cwV 2 cx.2.2.2.2.2.1 (cd_giV cm_773 cm_774 cm_775 cm_332 cm_776) rfl rfl rfl hdc_X3_setAsking ⟨by (try dsimp only); omega, by (try dsimp only); omega⟩) (cd_atO hj (by decide) (by decide)) rfl rfl hl.1 rfl (Nat.le_of_ble_eq_true rfl) dX4_readAsking_86 ⟨by (try dsimp only); omega, by (try dsimp only); omega⟩ (fun u H locs hp hw => ?_)
          obtain ⟨ca, hj, rfl⟩ := hp
          refine lv_aload_n cx.1 cx.2.1 dX4_readAsking_89 rfl (lv_at hl 1 rfl) ?_
          refine cd_gO (o2 := 10) (e2 := 0) (o := 4) (k := 0) (f := 128) hj cx hw hic4 rfl ⟨by decide, rfl, by decide, rfl⟩ rfl (by decide) ⟨rfl, rfl⟩ (List.mem_cons_of_mem _ cm_658) dX4_readAsking_90 ?_
          refine cd_gI (o := 10) (k := 8) (f := 328) hj cx hw hic10 rfl ⟨by decide, rfl, by decide, rfl⟩ rfl (by decide) (List.mem_cons_of_mem _ cm_665) dX4_readAsking_93 ?_
          refine lv_bipush (v := 91) cx.1 cx.2.1 dX4_readAsking_96 (by decide) ?_
          refine lv_icmp_ne (tgt := 129) cx.1 cx.2.1 dX4_readAsking_98 (by decide) (fun c98 => ?_) (fun c98 => ?_)
          · have h := md_in c98 h
            exact J129 _ hj p14.2 (p12.2.2) l1 ((cI p4.2.1 109 0)) _ _ _ (by omega) (by omega) (by omega) (by omega) h hw (lv_sub hl [1, 2, 0] rfl)
          · have h := md_ip c98 h
            refine lv_aload_n cx.1 cx.2.1 dX4_readAsking_101 rfl (lv_at hl 1 rfl) ?_
            refine cd_gO (o2 := 3) (e2 := 0) (o := 4) (k := 2) (f := 130) hj cx hw hic4 rfl ⟨by decide, rfl, by decide, rfl⟩ rfl (by decide) ⟨rfl, rfl⟩ (List.mem_cons_of_mem _ cm_701) dX4_readAsking_102 ?_
            refine lv_iload_n cx.1 cx.2.1 dX4_readAsking_105 rfl (lv_at hl 0 rfl) ?_
            obtain ⟨p15, e_p15, h⟩ := md_ob h
            refine hp_callVv (As := [.int (cI p4.2.1 109 0)]) (rest := []) cx hw (kc_X3_setIndexed l D cA E _ ad _ hj oq sgq sgv hE n p14.2 ((cI p4.2.1 109 0)) p15 e_p15) (cwV 1 cx.2.2.2.2.2.1 (cd_giV cm_777 cm_778 cm_779 cm_332 cm_780) rfl rfl rfl hdc_X3_setIndexed ⟨by (try dsimp only); omega, by (try dsimp only); omega⟩) (cd_atO hj (by decide) (by decide)) rfl rfl hl.1 rfl (Nat.le_of_ble_eq_true rfl) dX4_readAsking_106 ⟨by (try dsimp only); omega, by (try dsimp only); omega⟩ (fun u H locs hp hw => ?_)
            obtain ⟨ca, hj, rfl⟩ := hp
            refine lv_aload_n cx.1 cx.2.1 dX4_readAsking_109 rfl (lv_at hl 1 rfl) ?_
            refine cd_gO (o2 := 10) (e2 := 0) (o := 4) (k := 0) (f := 128) hj cx hw hic4 rfl ⟨by decide, rfl, by decide, rfl⟩ rfl (by decide) ⟨rfl, rfl⟩ (List.mem_cons_of_mem _ cm_658) dX4_readAsking_110 ?_
            obtain ⟨p16, e_p16, h⟩ := md_ob h
            refine hp_callVv (As := []) (rest := []) cx hw (kc_X10_advance l D cA E _ ad _ hj oq sgq sgv hE n p15.2  p16 e_p16) (cwV 0 cx.2.2.2.2.2.1 (cd_giV cm_670 cm_671 cm_672 cm_301 cm_673) rfl rfl rfl hdc_X10_advance ⟨by (try dsimp only); omega, by (try dsimp only); omega⟩) (cd_atO hj (by decide) (by decide)) rfl rfl hl.1 rfl (Nat.le_of_ble_eq_true rfl) dX4_readAsking_113 ⟨by (try dsimp only); omega, by (try dsimp only); omega⟩ (fun u H locs hp hw => ?_)
            obtain ⟨ca, hj, rfl⟩ := hp
            refine lv_aload_n cx.1 cx.2.1 dX4_readAsking_116 rfl (lv_at hl 1 rfl) ?_
            refine lv_iload_n cx.1 cx.2.1 dX4_readAsking_117 rfl (lv_at hl 3 rfl) ?_
            refine lv_iconst (v := 1) cx.1 cx.2.1 dX4_readAsking_118 (by decide) ?_
            refine lv_iadd cx.1 cx.2.1 dX4_readAsking_119 ?_
            obtain ⟨q17, e_q17, h⟩ := md_ob h
            obtain ⟨hm18, hn18, h⟩ := cd_cks h
            have hM18 : p.2.1 ≤ (Sum.elim (fun (p : Int32 × cd_S × cd_B) => p.2.2) (fun (t : cd_S × cd_B) => t.2) q17).1 ∧ p.2.2 ≤ (Sum.elim (fun (p : Int32 × cd_S × cd_B) => p.2.2) (fun (t : cd_S × cd_B) => t.2) q17).2 := ⟨hm18, hn18⟩
            cases q17 with
            | inr t17 =>
              obtain rfl : t17 = p := Sum.inr.inj (Option.some.inj h)
              have hlx17 := (ix0 sz _ hj p16.2 (p12.2.2) ((l2 + 1)) t17 e_q17).1
              exact hp_callQv (As := [.int (l2 + 1)]) (rest := []) cx hw hno ((ix0 _ _ hj p16.2 (p12.2.2) ((l2 + 1)) t17 e_q17).2) (cwV 1 cx.2.2.2.2.2.1 (cd_giV cm_760 cm_761 cm_762 cm_663 cm_763) rfl rfl rfl hdc_X4_readExpression ⟨by (try dsimp only); omega, by (try dsimp only); omega⟩) (cd_atO hj (by decide) (by decide)) rfl rfl hl.1 rfl (Nat.le_of_ble_eq_true rfl) dX4_readAsking_120 ⟨by (try dsimp only); omega, by (try dsimp only); omega⟩ (by omega) (by omega)
            | inl p17 =>
              have hle17 := (in0 sz _ hj p16.2 (p12.2.2) ((l2 + 1)) p17 e_q17).1
              have hM10018 : p.2.1 ≤ p17.2.2.1 ∧ p.2.2 ≤ p17.2.2.2 := hM18
              have h := cd_inl h
              refine hp_callVv (As := [.int (l2 + 1)]) (rest := []) cx hw ((in0 _ _ hj p16.2 (p12.2.2) ((l2 + 1)) p17 e_q17).2) (cwV 1 cx.2.2.2.2.2.1 (cd_giV cm_760 cm_761 cm_762 cm_663 cm_763) rfl rfl rfl hdc_X4_readExpression ⟨by (try dsimp only); omega, by (try dsimp only); omega⟩) (cd_atO hj (by decide) (by decide)) rfl rfl hl.1 rfl (Nat.le_of_ble_eq_true rfl) dX4_readAsking_120 ⟨by (try dsimp only); omega, by (try dsimp only); omega⟩ (fun u H locs hp hw => ?_)
              obtain ⟨ca, hj, rfl⟩ := hp
              refine W.widen (k := b0.1 - p17.2.2.1) (n := b0.2 - p17.2.2.2) (by omega) (by omega) ?_
              refine lv_aload_n cx.1 cx.2.1 dX4_readAsking_123 rfl (lv_at hl 1 rfl) ?_
              refine lv_bipush (v := 93) cx.1 cx.2.1 dX4_readAsking_124 (by decide) ?_
              obtain ⟨q19, e_q19, h⟩ := md_ob h
              obtain ⟨hm20, hn20, h⟩ := cd_cks h
              have hM20 : p.2.1 ≤ (Sum.elim (fun (p : Int32 × cd_S × cd_B) => p.2.2) (fun (t : cd_S × cd_B) => t.2) q19).1 ∧ p.2.2 ≤ (Sum.elim (fun (p : Int32 × cd_S × cd_B) => p.2.2) (fun (t : cd_S × cd_B) => t.2) q19).2 := ⟨hm20, hn20⟩
              cases q19 with
              | inr t19 =>
                obtain rfl : t19 = p := Sum.inr.inj (Option.some.inj h)
                have hlx19 := (kx_X4_pass l D cA E sz ad _ hj oq sgq sgv hE hX n p17.2.1 (p17.2.2) (93 : Int32) t19 e_q19).1
                exact hp_callQv (As := [.int 93]) (rest := []) cx hw hno ((kx_X4_pass l D cA E _ ad _ hj oq sgq sgv hE hX n p17.2.1 (p17.2.2) (93 : Int32) t19 e_q19).2) (cwV 1 cx.2.2.2.2.2.1 (cd_giV cm_714 cm_715 cm_716 cm_663 cm_717) rfl rfl rfl hdc_X4_pass ⟨by (try dsimp only); omega, by (try dsimp only); omega⟩) (cd_atO hj (by decide) (by decide)) rfl rfl hl.1 rfl (Nat.le_of_ble_eq_true rfl) dX4_readAsking_126 ⟨by (try dsimp only); omega, by (try dsimp only); omega⟩ (by omega) (by omega)
              | inl p19 =>
                have hle19 := (kc_X4_pass l D cA E sz ad _ hj oq sgq sgv hE n p17.2.1 (p17.2.2) (93 : Int32) p19 e_q19).1
                have hM10020 : p.2.1 ≤ p19.2.2.1 ∧ p.2.2 ≤ p19.2.2.2 := hM20
                have h := cd_inl h
                refine hp_callVv (As := [.int 93]) (rest := []) cx hw ((kc_X4_pass l D cA E _ ad _ hj oq sgq sgv hE n p17.2.1 (p17.2.2) (93 : Int32) p19 e_q19).2) (cwV 1 cx.2.2.2.2.2.1 (cd_giV cm_714 cm_715 cm_716 cm_663 cm_717) rfl rfl rfl hdc_X4_pass ⟨by (try dsimp only); omega, by (try dsimp only); omega⟩) (cd_atO hj (by decide) (by decide)) rfl rfl hl.1 rfl (Nat.le_of_ble_eq_true rfl) dX4_readAsking_126 ⟨by (try dsimp only); omega, by (try dsimp only); omega⟩ (fun u H locs hp hw => ?_)
                obtain ⟨ca, hj, rfl⟩ := hp
                refine W.widen (k := b0.1 - p19.2.2.1) (n := b0.2 - p19.2.2.2) (by omega) (by omega) ?_
                exact J129 _ hj p19.2.1 (p19.2.2) l1 ((cI p4.2.1 109 0)) _ _ _ (by omega) (by omega) (by omega) (by omega) h hw (lv_sub hl [1, 2, 0] rfl)
  refine lv_aload_n cx.1 cx.2.1 dX4_readAsking_0 rfl (lv_at hl 0 rfl) ?_
  obtain ⟨q21, e_q21, h⟩ := md_ob h
  obtain ⟨hm22, hn22, h⟩ := cd_cks h
  have hM22 : p.2.1 ≤ (Sum.elim (fun (p : Int32 × cd_S × cd_B) => p.2.2) (fun (t : cd_S × cd_B) => t.2) q21).1 ∧ p.2.2 ≤ (Sum.elim (fun (p : Int32 × cd_S × cd_B) => p.2.2) (fun (t : cd_S × cd_B) => t.2) q21).2 := ⟨hm22, hn22⟩
  cases q21 with
  | inr t21 =>
    obtain rfl : t21 = p := Sum.inr.inj (Option.some.inj h)
    have hlx21 := (kx_X4_part l D cA E sz ad _ hj oq sgq sgv hE hX n σ0 b0  t21 e_q21).1
    exact hp_callQv (As := []) (rest := []) cx hw hno ((kx_X4_part l D cA E _ ad _ hj oq sgq sgv hE hX n σ0 b0  t21 e_q21).2) (cwV 0 cx.2.2.2.2.2.1 (cd_giV cm_764 cm_765 cm_766 cm_663 cm_767) rfl rfl rfl hdc_X4_part ⟨by (try dsimp only); omega, by (try dsimp only); omega⟩) (cd_atO hj (by decide) (by decide)) rfl rfl hl.1 rfl (Nat.le_of_ble_eq_true rfl) dX4_readAsking_1 ⟨by (try dsimp only); omega, by (try dsimp only); omega⟩ (by omega) (by omega)
  | inl p21 =>
    have hle21 := (kc_X4_part l D cA E sz ad _ hj oq sgq sgv hE n σ0 b0  p21 e_q21).1
    have hM10022 : p.2.1 ≤ p21.2.2.1 ∧ p.2.2 ≤ p21.2.2.2 := hM22
    have h := cd_inl h
    refine hp_callVv (As := []) (rest := []) cx hw ((kc_X4_part l D cA E _ ad _ hj oq sgq sgv hE n σ0 b0  p21 e_q21).2) (cwV 0 cx.2.2.2.2.2.1 (cd_giV cm_764 cm_765 cm_766 cm_663 cm_767) rfl rfl rfl hdc_X4_part ⟨by (try dsimp only); omega, by (try dsimp only); omega⟩) (cd_atO hj (by decide) (by decide)) rfl rfl hl.1 rfl (Nat.le_of_ble_eq_true rfl) dX4_readAsking_1 ⟨by (try dsimp only); omega, by (try dsimp only); omega⟩ (fun u H locs hp hw => ?_)
    obtain ⟨ca, hj, rfl⟩ := hp
    refine W.widen (k := b0.1 - p21.2.2.1) (n := b0.2 - p21.2.2.2) (by omega) (by omega) ?_
    refine lv_aload_n cx.1 cx.2.1 dX4_readAsking_4 rfl (lv_at hl 0 rfl) ?_
    refine lv_aload_n cx.1 cx.2.1 dX4_readAsking_5 rfl (lv_at hl 0 rfl) ?_
    refine cd_gO (o2 := 3) (e2 := 0) (o := 4) (k := 2) (f := 130) hj cx hw hic4 rfl ⟨by decide, rfl, by decide, rfl⟩ rfl (by decide) ⟨rfl, rfl⟩ (List.mem_cons_of_mem _ cm_701) dX4_readAsking_6 ?_
    refine cd_gI (o := 3) (k := 13) (f := 109) hj cx hw hic3 rfl ⟨by decide, rfl, by decide, rfl⟩ rfl (by decide) (List.mem_cons_of_mem _ cm_768) dX4_readAsking_9 ?_
    refine lv_bipush (v := 24) cx.1 cx.2.1 dX4_readAsking_12 (by decide) ?_
    refine lv_icmp_ge (tgt := 21) cx.1 cx.2.1 dX4_readAsking_14 (by decide) (fun c14 => ?_) (fun c14 => ?_)
    · have h := md_ip c14 h
      refine lv_iconst (v := 0) cx.1 cx.2.1 dX4_readAsking_21 (by decide) ?_
      exact J22 _ hj p21.2.1 (p21.2.2) a1 a2 0 _ _ _ (by omega) (by omega) (by omega) (by omega) h hw (lv_sub hl [0, 1, 2] rfl)
    · have h := md_in c14 h
      refine lv_iconst (v := 1) cx.1 cx.2.1 dX4_readAsking_17 (by decide) ?_
      refine lv_goto (tgt := 22) cx.1 cx.2.1 dX4_readAsking_18 (by decide) ?_
      exact J22 _ hj p21.2.1 (p21.2.2) a1 a2 1 _ _ _ (by omega) (by omega) (by omega) (by omega) h hw (lv_sub hl [0, 1, 2] rfl)
set_option maxHeartbeats 4000000 in
set_option maxRecDepth 100000 in
theorem kx_X4_readParameters (l : Launch) (D : va_G) (cA : Nat → ClassId) (E : hp_N) (sz : Nat) (ad : Nat → Nat → Nat) (ca0 : Nat → Nat) (hj : cd_inj ad ca0) (oq sgq sgv : Nat) (hE : cd_E E oq sgq sgv) (hX : cd_X l E) (n : Nat) (σ0 : cd_S) (b0 : cd_B) (p : (cd_S × cd_B)) (h : f_X4_readParameters n σ0 b0 = some (Sum.inr p)) : (p.2.1 ≤ b0.1 ∧ p.2.2 ≤ b0.2) ∧ vx_Met l yX4_readParameters (Cond.code yX4_readParameters cX4_readParameters 4 none :: v_CLS) ({ frames := 14, cells := b0.1 - p.2.1, slots := b0.2 - p.2.2, locals := 243 }) (hp_Pc D vwCl (hp_Tl cA) E sz (cd_pic cA ad ca0 σ0) [.ref (ad 4 0)]) (hp_Qv D vwCl (hp_Tl cA) sz (cd_pic cA ad ca0 σ0) (fun _ => False)) (hp_XQ D vwCl (hp_Tl cA) "java/lang/IllegalArgumentException" (cd_pic cA ad ca0 σ0) sz (fun u => ∃ ca1, cd_inj ad ca1 ∧ u = cd_pic cA ad ca1 p.1)) (b0.1 - p.2.1) (b0.2 - p.2.2) (hp_A (cd_pic cA ad ca0 σ0) sz) := by
  obtain ⟨hm0, hn0, h⟩ := cd_cks h
  have hM0 : p.2.1 ≤ b0.1 ∧ p.2.2 ≤ b0.2 := ⟨hm0, hn0⟩
  refine ⟨hM0, ?_⟩
  refine hp_ofWx (cc := cX4_readParameters) (maxL := 4) (ret := none) (by decide) rfl (Nat.le_of_ble_eq_true rfl) ?_
  intro pp ee ss mm bb mt cd ls cx hsz hw hl hno
  have hl : lv_has ls 4 [(0, .ref (ad 4 0))] := hl
  refine W.widen (k := b0.1 - b0.1) (n := b0.2 - b0.2) (Nat.zero_le _) (Nat.zero_le _) ?_
  have J22 : ∀ (ca : Nat → Nat) (hj : cd_inj ad ca) (σ : cd_S) (b : cd_B) (l1 : Int32) (t0 : Int32) (H : Heap) (locs : List Loc) (ls : Array Slot), b.1 ≤ b0.1 → b.2 ≤ b0.2 → p.2.1 ≤ b.1 → p.2.2 ≤ b.2 → f_X4_readParameters_J22 n σ b l1 t0 = some (Sum.inr p) → hp_w D vwCl (hp_Tl cA) E (hp_A (cd_pic cA ad ca0 σ0) sz) ss H locs (cd_pic cA ad ca σ) → lv_has ls 4 [(0, .ref (ad 4 0)), (1, .int l1)] → W pp l ee ({ frames := 14, cells := b0.1 - p.2.1, slots := b0.2 - p.2.2, locals := 243 }) ss mm [.ref (ad 4 0)].toArray bb mt cd H locs (b0.1 - b.1) (b0.2 - b.2) (vx_MQ bb (hp_Qv D vwCl (hp_Tl cA) sz (cd_pic cA ad ca0 σ0) (fun _ => False)) (hp_XQ D vwCl (hp_Tl cA) "java/lang/IllegalArgumentException" (cd_pic cA ad ca0 σ0) sz (fun u => ∃ ca1, cd_inj ad ca1 ∧ u = cd_pic cA ad ca1 p.1)) [.ref (ad 4 0)].toArray ss (b0.1 - p.2.1) (b0.2 - p.2.2) (hp_A (cd_pic cA ad ca0 σ0) sz)) (F0 mm 22 ls [.int t0]) := by
    intro ca hj σ b l1 t0 H locs ls hb1 hb2 hf1 hf2 h hw hl
    refine lv_istore_n (lv' := [(2, .int t0), (0, .ref (ad 4 0)), (1, .int l1)]) cx.1 cx.2.1 dX4_readParameters_22 rfl hl (by decide) rfl (fun ls hl => ?_)
    refine lv_iconst (v := 0) cx.1 cx.2.1 dX4_readParameters_23 (by decide) ?_
    refine lv_istore_n (lv' := [(3, .int 0), (2, .int t0), (0, .ref (ad 4 0)), (1, .int l1)]) cx.1 cx.2.1 dX4_readParameters_24 rfl hl (by decide) rfl (fun ls hl => ?_)
    have L25 : ∀ (j : Nat) (ca : Nat → Nat) (hj : cd_inj ad ca) (σ : cd_S) (b : cd_B) (l1 : Int32) (l2 : Int32) (l3 : Int32) (q : (((Int32 × cd_S × cd_B) ⊕ (cd_S × cd_B)) ⊕ (cd_S × cd_B × Int32 × Int32))) (H : Heap) (locs : List Loc) (ls : Array Slot), b.1 ≤ b0.1 → b.2 ≤ b0.2 → p.2.1 ≤ b.1 → p.2.2 ≤ b.2 → p.2.1 ≤ (Sum.elim (fun (q : ((Int32 × cd_S × cd_B) ⊕ (cd_S × cd_B))) => Sum.elim (fun (p : (Int32 × cd_S × cd_B)) => p.2.2) (fun (t : cd_S × cd_B) => t.2) q) (fun (q : cd_S × cd_B × Int32 × Int32) => q.2.1) q).1 → p.2.2 ≤ (Sum.elim (fun (q : ((Int32 × cd_S × cd_B) ⊕ (cd_S × cd_B))) => Sum.elim (fun (p : (Int32 × cd_S × cd_B)) => p.2.2) (fun (t : cd_S × cd_B) => t.2) q) (fun (q : cd_S × cd_B × Int32 × Int32) => q.2.1) q).2 → f_X4_readParameters_L25 n l1 j σ b l2 l3 = some q → hp_w D vwCl (hp_Tl cA) E (hp_A (cd_pic cA ad ca0 σ0) sz) ss H locs (cd_pic cA ad ca σ) → lv_has ls 4 [(0, .ref (ad 4 0)), (1, .int l1), (2, .int l2), (3, .int l3)] → (∀ t, q = Sum.inr t → (∀ (ca : Nat → Nat) (hj : cd_inj ad ca) (H : Heap) (locs : List Loc) (ls : Array Slot), t.2.1.1 ≤ b0.1 → t.2.1.2 ≤ b0.2 → hp_w D vwCl (hp_Tl cA) E (hp_A (cd_pic cA ad ca0 σ0) sz) ss H locs (cd_pic cA ad ca t.1) → lv_has ls 4 [] → W pp l ee ({ frames := 14, cells := b0.1 - p.2.1, slots := b0.2 - p.2.2, locals := 243 }) ss mm [.ref (ad 4 0)].toArray bb mt cd H locs (b0.1 - t.2.1.1) (b0.2 - t.2.1.2) (vx_MQ bb (hp_Qv D vwCl (hp_Tl cA) sz (cd_pic cA ad ca0 σ0) (fun _ => False)) (hp_XQ D vwCl (hp_Tl cA) "java/lang/IllegalArgumentException" (cd_pic cA ad ca0 σ0) sz (fun u => ∃ ca1, cd_inj ad ca1 ∧ u = cd_pic cA ad ca1 p.1)) [.ref (ad 4 0)].toArray ss (b0.1 - p.2.1) (b0.2 - p.2.2) (hp_A (cd_pic cA ad ca0 σ0) sz)) (F0 mm 161 ls []))) → (∀ r, q = Sum.inl r → r = Sum.inr p) → W pp l ee ({ frames := 14, cells := b0.1 - p.2.1, slots := b0.2 - p.2.2, locals := 243 }) ss mm [.ref (ad 4 0)].toArray bb mt cd H locs (b0.1 - b.1) (b0.2 - b.2) (vx_MQ bb (hp_Qv D vwCl (hp_Tl cA) sz (cd_pic cA ad ca0 σ0) (fun _ => False)) (hp_XQ D vwCl (hp_Tl cA) "java/lang/IllegalArgumentException" (cd_pic cA ad ca0 σ0) sz (fun u => ∃ ca1, cd_inj ad ca1 ∧ u = cd_pic cA ad ca1 p.1)) [.ref (ad 4 0)].toArray ss (b0.1 - p.2.1) (b0.2 - p.2.2) (hp_A (cd_pic cA ad ca0 σ0) sz)) (F0 mm 25 ls []) := by
      intro j
      induction j with
      | zero => intro ca hj σ b l1 l2 l3 q H locs ls hb1 hb2 hf1 hf2 hq1 hq2 h; exact nomatch h
      | succ j ih =>
        intro ca hj σ b l1 l2 l3 q H locs ls hb1 hb2 hf1 hf2 hq1 hq2 h hw hl K KR
        unfold f_X4_readParameters_L25 at h
        have J155 : ∀ (ca : Nat → Nat) (hj : cd_inj ad ca) (σ : cd_S) (b : cd_B) (l2 : Int32) (l3 : Int32) (H : Heap) (locs : List Loc) (ls : Array Slot), b.1 ≤ b0.1 → b.2 ≤ b0.2 → p.2.1 ≤ b.1 → p.2.2 ≤ b.2 → f_X4_readParameters_J155 n l1 (f_X4_readParameters_L25 n l1 j) σ b l2 l3 = some q → hp_w D vwCl (hp_Tl cA) E (hp_A (cd_pic cA ad ca0 σ0) sz) ss H locs (cd_pic cA ad ca σ) → lv_has ls 4 [(0, .ref (ad 4 0)), (1, .int l1), (2, .int l2), (3, .int l3)] → W pp l ee ({ frames := 14, cells := b0.1 - p.2.1, slots := b0.2 - p.2.2, locals := 243 }) ss mm [.ref (ad 4 0)].toArray bb mt cd H locs (b0.1 - b.1) (b0.2 - b.2) (vx_MQ bb (hp_Qv D vwCl (hp_Tl cA) sz (cd_pic cA ad ca0 σ0) (fun _ => False)) (hp_XQ D vwCl (hp_Tl cA) "java/lang/IllegalArgumentException" (cd_pic cA ad ca0 σ0) sz (fun u => ∃ ca1, cd_inj ad ca1 ∧ u = cd_pic cA ad ca1 p.1)) [.ref (ad 4 0)].toArray ss (b0.1 - p.2.1) (b0.2 - p.2.2) (hp_A (cd_pic cA ad ca0 σ0) sz)) (F0 mm 155 ls []) := by
          intro ca hj σ b l2 l3 H locs ls hb1 hb2 hf1 hf2 h hw hl
          refine lv_iinc (v := (l3 + 1)) (lv' := [(3, .int (l3 + 1)), (0, .ref (ad 4 0)), (1, .int l1), (2, .int l2)]) cx.1 cx.2.1 dX4_readParameters_155 hl (k := 3) rfl rfl (by decide) rfl (fun ls hl => ?_)
          refine lv_goto (tgt := 25) cx.1 cx.2.1 dX4_readParameters_158 (by decide) ?_
          exact ih _ hj σ b l1 l2 ((l3 + 1)) q _ _ _ (by omega) (by omega) (by omega) (by omega) hq1 hq2 h hw (lv_sub hl [1, 2, 3, 0] rfl) K KR
        have J143 : ∀ (ca : Nat → Nat) (hj : cd_inj ad ca) (σ : cd_S) (b : cd_B) (l3 : Int32) (t0 : Int32) (H : Heap) (locs : List Loc) (ls : Array Slot), b.1 ≤ b0.1 → b.2 ≤ b0.2 → p.2.1 ≤ b.1 → p.2.2 ≤ b.2 → f_X4_readParameters_J143 n l1 (f_X4_readParameters_L25 n l1 j) σ b l3 t0 = some q → hp_w D vwCl (hp_Tl cA) E (hp_A (cd_pic cA ad ca0 σ0) sz) ss H locs (cd_pic cA ad ca σ) → lv_has ls 4 [(0, .ref (ad 4 0)), (1, .int l1), (3, .int l3)] → W pp l ee ({ frames := 14, cells := b0.1 - p.2.1, slots := b0.2 - p.2.2, locals := 243 }) ss mm [.ref (ad 4 0)].toArray bb mt cd H locs (b0.1 - b.1) (b0.2 - b.2) (vx_MQ bb (hp_Qv D vwCl (hp_Tl cA) sz (cd_pic cA ad ca0 σ0) (fun _ => False)) (hp_XQ D vwCl (hp_Tl cA) "java/lang/IllegalArgumentException" (cd_pic cA ad ca0 σ0) sz (fun u => ∃ ca1, cd_inj ad ca1 ∧ u = cd_pic cA ad ca1 p.1)) [.ref (ad 4 0)].toArray ss (b0.1 - p.2.1) (b0.2 - p.2.2) (hp_A (cd_pic cA ad ca0 σ0) sz)) (F0 mm 143 ls [.int t0]) := by
          intro ca hj σ b l3 t0 H locs ls hb1 hb2 hf1 hf2 h hw hl
          refine lv_istore_n (lv' := [(2, .int t0), (0, .ref (ad 4 0)), (1, .int l1), (3, .int l3)]) cx.1 cx.2.1 dX4_readParameters_143 rfl hl (by decide) rfl (fun ls hl => ?_)
          refine lv_iload_n cx.1 cx.2.1 dX4_readParameters_144 rfl (lv_at hl 0 rfl) ?_
          refine lv_if_eq (tgt := 155) cx.1 cx.2.1 dX4_readParameters_145 (by decide) (fun c145 => ?_) (fun c145 => ?_)
          · have h := md_ip c145 h
            exact J155 _ hj σ b t0 l3 _ _ _ (by omega) (by omega) (by omega) (by omega) h hw (lv_sub hl [1, 2, 0, 3] rfl)
          · have h := md_in c145 h
            refine lv_aload_n cx.1 cx.2.1 dX4_readParameters_148 rfl (lv_at hl 1 rfl) ?_
            refine cd_gO (o2 := 10) (e2 := 0) (o := 4) (k := 0) (f := 128) hj cx hw hic4 rfl ⟨by decide, rfl, by decide, rfl⟩ rfl (by decide) ⟨rfl, rfl⟩ (List.mem_cons_of_mem _ cm_658) dX4_readParameters_149 ?_
            obtain ⟨p1, e_p1, h⟩ := md_ob h
            refine hp_callVv (As := []) (rest := []) cx hw (kc_X10_advance l D cA E _ ad _ hj oq sgq sgv hE n σ  p1 e_p1) (cwV 0 cx.2.2.2.2.2.1 (cd_giV cm_670 cm_671 cm_672 cm_301 cm_673) rfl rfl rfl hdc_X10_advance ⟨Nat.le_of_ble_eq_true rfl, Nat.le_of_ble_eq_true rfl⟩) (cd_atO hj (by decide) (by decide)) rfl rfl hl.1 rfl (Nat.le_of_ble_eq_true rfl) dX4_readParameters_152 ⟨by (try dsimp only); omega, by (try dsimp only); omega⟩ (fun u H locs hp hw => ?_)
            obtain ⟨ca, hj, rfl⟩ := hp
            exact J155 _ hj p1.2 b t0 l3 _ _ _ (by omega) (by omega) (by omega) (by omega) h hw (lv_sub hl [1, 2, 0, 3] rfl)
        have J88 : ∀ (ca : Nat → Nat) (hj : cd_inj ad ca) (σ : cd_S) (b : cd_B) (l3 : Int32) (H : Heap) (locs : List Loc) (ls : Array Slot), b.1 ≤ b0.1 → b.2 ≤ b0.2 → p.2.1 ≤ b.1 → p.2.2 ≤ b.2 → f_X4_readParameters_J88 n l1 (f_X4_readParameters_L25 n l1 j) σ b l3 = some q → hp_w D vwCl (hp_Tl cA) E (hp_A (cd_pic cA ad ca0 σ0) sz) ss H locs (cd_pic cA ad ca σ) → lv_has ls 4 [(0, .ref (ad 4 0)), (1, .int l1), (3, .int l3)] → W pp l ee ({ frames := 14, cells := b0.1 - p.2.1, slots := b0.2 - p.2.2, locals := 243 }) ss mm [.ref (ad 4 0)].toArray bb mt cd H locs (b0.1 - b.1) (b0.2 - b.2) (vx_MQ bb (hp_Qv D vwCl (hp_Tl cA) sz (cd_pic cA ad ca0 σ0) (fun _ => False)) (hp_XQ D vwCl (hp_Tl cA) "java/lang/IllegalArgumentException" (cd_pic cA ad ca0 σ0) sz (fun u => ∃ ca1, cd_inj ad ca1 ∧ u = cd_pic cA ad ca1 p.1)) [.ref (ad 4 0)].toArray ss (b0.1 - p.2.1) (b0.2 - p.2.2) (hp_A (cd_pic cA ad ca0 σ0) sz)) (F0 mm 88 ls []) := by
          intro ca hj σ b l3 H locs ls hb1 hb2 hf1 hf2 h hw hl
          refine lv_aload_n cx.1 cx.2.1 dX4_readParameters_88 rfl (lv_at hl 0 rfl) ?_
          refine lv_aload_n cx.1 cx.2.1 dX4_readParameters_89 rfl (lv_at hl 0 rfl) ?_
          refine cd_gO (o2 := 10) (e2 := 0) (o := 4) (k := 0) (f := 128) hj cx hw hic4 rfl ⟨by decide, rfl, by decide, rfl⟩ rfl (by decide) ⟨rfl, rfl⟩ (List.mem_cons_of_mem _ cm_658) dX4_readParameters_90 ?_
          refine cd_gJ (o := 10) (k := 10) (f := 330) hj cx hw hic10 rfl ⟨by decide, rfl, by decide, rfl⟩ rfl (by decide) (List.mem_cons_of_mem _ cm_695) dX4_readParameters_93 ?_
          refine lv_aload_n cx.1 cx.2.1 dX4_readParameters_96 rfl (lv_at hl 0 rfl) ?_
          obtain ⟨u2, e_u2, h⟩ := md_ob h
          have hb_u2 : u2 < 60 := (cd_dps e_u2).2
          refine cd_gP (o2 := 9) (u := u2) (o := 4) (k := 8) (f := 136) hj cx hw hic4 rfl ⟨by decide, rfl, by decide, rfl⟩ rfl (by decide) rfl e_u2 (List.mem_cons_of_mem _ cm_749) dX4_readParameters_97 ?_
          obtain ⟨p3, e_p3, h⟩ := md_ob h
          refine hp_callVi (As := []) (rest := [.long (cJ σ 330 0), .ref (ad 4 0)]) cx hw (kc_X9_addOwn l D cA E _ ad _ hj oq sgq sgv hE n σ u2 (show _ < 60 by omega) p3 e_p3) (cwV 0 cx.2.2.2.2.2.1 (cd_giV cm_798 cm_799 cm_800 cm_114 cm_801) rfl rfl rfl hdc_X9_addOwn ⟨Nat.le_of_ble_eq_true rfl, Nat.le_of_ble_eq_true rfl⟩) (cd_atO hj (by decide) (show _ < 60 by omega)) rfl rfl hl.1 rfl (Nat.le_of_ble_eq_true rfl) dX4_readParameters_100 ⟨by (try dsimp only); omega, by (try dsimp only); omega⟩ (fun r u H locs hp hw => ?_)
          obtain ⟨rfl, ca, hj, rfl⟩ := hp
          obtain ⟨p4, e_p4, h⟩ := md_ob h
          refine hp_callVv (As := [.long (cJ σ 330 0), .int p3.1]) (rest := []) cx hw (kc_X4_declare l D cA E _ ad _ hj oq sgq sgv hE n p3.2 ((cJ σ 330 0)) (p3.1) p4 e_p4) (cwV 2 cx.2.2.2.2.2.1 (cd_giV cm_802 cm_803 cm_804 cm_663 cm_805) rfl rfl rfl hdc_X4_declare ⟨Nat.le_of_ble_eq_true rfl, Nat.le_of_ble_eq_true rfl⟩) (cd_atO hj (by decide) (by decide)) rfl rfl hl.1 rfl (Nat.le_of_ble_eq_true rfl) dX4_readParameters_103 ⟨by (try dsimp only); omega, by (try dsimp only); omega⟩ (fun u H locs hp hw => ?_)
          obtain ⟨ca, hj, rfl⟩ := hp
          refine lv_aload_n cx.1 cx.2.1 dX4_readParameters_106 rfl (lv_at hl 0 rfl) ?_
          obtain ⟨u5, e_u5, h⟩ := md_ob h
          have hb_u5 : u5 < 60 := (cd_dps e_u5).2
          refine cd_gP (o2 := 9) (u := u5) (o := 4) (k := 8) (f := 136) hj cx hw hic4 rfl ⟨by decide, rfl, by decide, rfl⟩ rfl (by decide) rfl e_u5 (List.mem_cons_of_mem _ cm_749) dX4_readParameters_107 ?_
          refine lv_dup cx.1 cx.2.1 dX4_readParameters_110 rfl ?_
          refine cd_gI (o := 9) (k := 6) (f := 294) hj cx hw hic9 rfl ⟨by decide, rfl, by decide, rfl⟩ rfl (show _ < 60 by omega) (List.mem_cons_of_mem _ cm_806) dX4_readParameters_111 ?_
          refine lv_iconst (v := 1) cx.1 cx.2.1 dX4_readParameters_114 (by decide) ?_
          refine lv_iadd cx.1 cx.2.1 dX4_readParameters_115 ?_
          obtain ⟨σ6, e_σ6, h⟩ := md_ob h
          refine cd_pI (o := 9) (k := 6) (f := 294) hj cx hw hic9 rfl ⟨by decide, rfl, by decide, rfl⟩ tyX9_ok nmX9 rfl (show _ < 60 by omega) rfl (List.mem_cons_of_mem _ cm_806) rfl e_σ6 dX4_readParameters_116 (fun H locs hw => ?_)
          refine lv_aload_n cx.1 cx.2.1 dX4_readParameters_119 rfl (lv_at hl 0 rfl) ?_
          refine cd_gO (o2 := 10) (e2 := 0) (o := 4) (k := 0) (f := 128) hj cx hw hic4 rfl ⟨by decide, rfl, by decide, rfl⟩ rfl (by decide) ⟨rfl, rfl⟩ (List.mem_cons_of_mem _ cm_658) dX4_readParameters_120 ?_
          obtain ⟨p7, e_p7, h⟩ := md_ob h
          refine hp_callVv (As := []) (rest := []) cx hw (kc_X10_advance l D cA E _ ad _ hj oq sgq sgv hE n σ6  p7 e_p7) (cwV 0 cx.2.2.2.2.2.1 (cd_giV cm_670 cm_671 cm_672 cm_301 cm_673) rfl rfl rfl hdc_X10_advance ⟨Nat.le_of_ble_eq_true rfl, Nat.le_of_ble_eq_true rfl⟩) (cd_atO hj (by decide) (by decide)) rfl rfl hl.1 rfl (Nat.le_of_ble_eq_true rfl) dX4_readParameters_123 ⟨by (try dsimp only); omega, by (try dsimp only); omega⟩ (fun u H locs hp hw => ?_)
          obtain ⟨ca, hj, rfl⟩ := hp
          refine lv_aload_n cx.1 cx.2.1 dX4_readParameters_126 rfl (lv_at hl 0 rfl) ?_
          refine cd_gO (o2 := 10) (e2 := 0) (o := 4) (k := 0) (f := 128) hj cx hw hic4 rfl ⟨by decide, rfl, by decide, rfl⟩ rfl (by decide) ⟨rfl, rfl⟩ (List.mem_cons_of_mem _ cm_658) dX4_readParameters_127 ?_
          refine cd_gI (o := 10) (k := 8) (f := 328) hj cx hw hic10 rfl ⟨by decide, rfl, by decide, rfl⟩ rfl (by decide) (List.mem_cons_of_mem _ cm_665) dX4_readParameters_130 ?_
          refine lv_bipush (v := 44) cx.1 cx.2.1 dX4_readParameters_133 (by decide) ?_
          refine lv_icmp_ne (tgt := 142) cx.1 cx.2.1 dX4_readParameters_135 (by decide) (fun c135 => ?_) (fun c135 => ?_)
          · have h := md_in c135 h
            refine lv_iconst (v := 0) cx.1 cx.2.1 dX4_readParameters_142 (by decide) ?_
            exact J143 _ hj p7.2 b l3 0 _ _ _ (by omega) (by omega) (by omega) (by omega) h hw (lv_sub hl [0, 1, 2] rfl)
          · have h := md_ip c135 h
            refine lv_iconst (v := 1) cx.1 cx.2.1 dX4_readParameters_138 (by decide) ?_
            refine lv_goto (tgt := 143) cx.1 cx.2.1 dX4_readParameters_139 (by decide) ?_
            exact J143 _ hj p7.2 b l3 1 _ _ _ (by omega) (by omega) (by omega) (by omega) h hw (lv_sub hl [0, 1, 2] rfl)
        have J58 : ∀ (ca : Nat → Nat) (hj : cd_inj ad ca) (σ : cd_S) (b : cd_B) (l3 : Int32) (t0 : Int32) (H : Heap) (locs : List Loc) (ls : Array Slot), b.1 ≤ b0.1 → b.2 ≤ b0.2 → p.2.1 ≤ b.1 → p.2.2 ≤ b.2 → f_X4_readParameters_J58 n l1 (f_X4_readParameters_L25 n l1 j) σ b l3 t0 = some q → hp_w D vwCl (hp_Tl cA) E (hp_A (cd_pic cA ad ca0 σ0) sz) ss H locs (cd_pic cA ad ca σ) → lv_has ls 4 [(0, .ref (ad 4 0)), (1, .int l1), (3, .int l3)] → W pp l ee ({ frames := 14, cells := b0.1 - p.2.1, slots := b0.2 - p.2.2, locals := 243 }) ss mm [.ref (ad 4 0)].toArray bb mt cd H locs (b0.1 - b.1) (b0.2 - b.2) (vx_MQ bb (hp_Qv D vwCl (hp_Tl cA) sz (cd_pic cA ad ca0 σ0) (fun _ => False)) (hp_XQ D vwCl (hp_Tl cA) "java/lang/IllegalArgumentException" (cd_pic cA ad ca0 σ0) sz (fun u => ∃ ca1, cd_inj ad ca1 ∧ u = cd_pic cA ad ca1 p.1)) [.ref (ad 4 0)].toArray ss (b0.1 - p.2.1) (b0.2 - p.2.2) (hp_A (cd_pic cA ad ca0 σ0) sz)) (F0 mm 58 ls [.int t0, .ref (ad 4 0)]) := by
          intro ca hj σ b l3 t0 H locs ls hb1 hb2 hf1 hf2 h hw hl
          obtain ⟨q8, e_q8, h⟩ := md_ob h
          obtain ⟨hm9, hn9, h⟩ := cd_cks h
          have hM9 : p.2.1 ≤ (Sum.elim (fun (p : Int32 × cd_S × cd_B) => p.2.2) (fun (t : cd_S × cd_B) => t.2) q8).1 ∧ p.2.2 ≤ (Sum.elim (fun (p : Int32 × cd_S × cd_B) => p.2.2) (fun (t : cd_S × cd_B) => t.2) q8).2 := ⟨Nat.le_trans hq1 hm9, Nat.le_trans hq2 hn9⟩
          cases q8 with
          | inr t8 =>
            obtain rfl : t8 = p := Sum.inr.inj (KR _ (Option.some.inj h).symm)
            have hlx8 := (kx_X4_room l D cA E sz ad _ hj oq sgq sgv hE hX n σ b t0 t8 e_q8).1
            exact hp_callQv (As := [.int t0]) (rest := []) cx hw hno ((kx_X4_room l D cA E _ ad _ hj oq sgq sgv hE hX n σ b t0 t8 e_q8).2) (cwV 1 cx.2.2.2.2.2.1 (cd_giV cm_691 cm_692 cm_693 cm_663 cm_694) rfl rfl rfl hdc_X4_room ⟨Nat.le_of_ble_eq_true rfl, Nat.le_of_ble_eq_true rfl⟩) (cd_atO hj (by decide) (by decide)) rfl rfl hl.1 rfl (Nat.le_of_ble_eq_true rfl) dX4_readParameters_58 ⟨by (try dsimp only); omega, by (try dsimp only); omega⟩ (by omega) (by omega)
          | inl p8 =>
            have hle8 := (kc_X4_room l D cA E sz ad _ hj oq sgq sgv hE n σ b t0 p8 e_q8).1
            have hM10009 : p.2.1 ≤ p8.2.2.1 ∧ p.2.2 ≤ p8.2.2.2 := hM9
            have h := cd_inl h
            refine hp_callVv (As := [.int t0]) (rest := []) cx hw ((kc_X4_room l D cA E _ ad _ hj oq sgq sgv hE n σ b t0 p8 e_q8).2) (cwV 1 cx.2.2.2.2.2.1 (cd_giV cm_691 cm_692 cm_693 cm_663 cm_694) rfl rfl rfl hdc_X4_room ⟨Nat.le_of_ble_eq_true rfl, Nat.le_of_ble_eq_true rfl⟩) (cd_atO hj (by decide) (by decide)) rfl rfl hl.1 rfl (Nat.le_of_ble_eq_true rfl) dX4_readParameters_58 ⟨by (try dsimp only); omega, by (try dsimp only); omega⟩ (fun u H locs hp hw => ?_)
            obtain ⟨ca, hj, rfl⟩ := hp
            refine W.widen (k := b0.1 - p8.2.2.1) (n := b0.2 - p8.2.2.2) (by omega) (by omega) ?_
            refine lv_aload_n cx.1 cx.2.1 dX4_readParameters_61 rfl (lv_at hl 0 rfl) ?_
            refine lv_aload_n cx.1 cx.2.1 dX4_readParameters_62 rfl (lv_at hl 0 rfl) ?_
            refine cd_gO (o2 := 10) (e2 := 0) (o := 4) (k := 0) (f := 128) hj cx hw hic4 rfl ⟨by decide, rfl, by decide, rfl⟩ rfl (by decide) ⟨rfl, rfl⟩ (List.mem_cons_of_mem _ cm_658) dX4_readParameters_63 ?_
            refine cd_gJ (o := 10) (k := 10) (f := 330) hj cx hw hic10 rfl ⟨by decide, rfl, by decide, rfl⟩ rfl (by decide) (List.mem_cons_of_mem _ cm_695) dX4_readParameters_66 ?_
            obtain ⟨p10, e_p10, h⟩ := md_ob h
            refine hp_callVi (As := [.long (cJ p8.2.1 330 0)]) (rest := []) cx hw (kc_X4_findVariable l D cA E _ ad _ hj oq sgq sgv hE n p8.2.1 ((cJ p8.2.1 330 0)) p10 e_p10) (cwV 1 cx.2.2.2.2.2.1 (cd_giV cm_794 cm_795 cm_796 cm_663 cm_797) rfl rfl rfl hdc_X4_findVariable ⟨Nat.le_of_ble_eq_true rfl, Nat.le_of_ble_eq_true rfl⟩) (cd_atO hj (by decide) (by decide)) rfl rfl hl.1 rfl (Nat.le_of_ble_eq_true rfl) dX4_readParameters_69 ⟨by (try dsimp only); omega, by (try dsimp only); omega⟩ (fun r u H locs hp hw => ?_)
            obtain ⟨rfl, ca, hj, rfl⟩ := hp
            refine lv_iload_n cx.1 cx.2.1 dX4_readParameters_72 rfl (lv_at hl 1 rfl) ?_
            refine lv_icmp_lt (tgt := 88) cx.1 cx.2.1 dX4_readParameters_73 (by decide) (fun c73 => ?_) (fun c73 => ?_)
            · have h := md_ip c73 h
              exact J88 _ hj p10.2 (p8.2.2) l3 _ _ _ (by omega) (by omega) (by omega) (by omega) h hw (lv_sub hl [0, 1, 2] rfl)
            · have h := md_in c73 h
              refine lv_aload_n cx.1 cx.2.1 dX4_readParameters_76 rfl (lv_at hl 0 rfl) ?_
              refine lv_iconst (v := 2) cx.1 cx.2.1 dX4_readParameters_77 (by decide) ?_
              refine lv_aload_n cx.1 cx.2.1 dX4_readParameters_78 rfl (lv_at hl 0 rfl) ?_
              refine cd_gO (o2 := 10) (e2 := 0) (o := 4) (k := 0) (f := 128) hj cx hw hic4 rfl ⟨by decide, rfl, by decide, rfl⟩ rfl (by decide) ⟨rfl, rfl⟩ (List.mem_cons_of_mem _ cm_658) dX4_readParameters_79 ?_
              refine cd_gI (o := 10) (k := 9) (f := 329) hj cx hw hic10 rfl ⟨by decide, rfl, by decide, rfl⟩ rfl (by decide) (List.mem_cons_of_mem _ cm_659) dX4_readParameters_82 ?_
              obtain ⟨q11, e_q11, h⟩ := md_ob h
              obtain ⟨hm12, hn12, h⟩ := cd_cks h
              have hM12 : p.2.1 ≤ (Sum.elim (fun (p : Int32 × cd_S × cd_B) => p.2.2) (fun (t : cd_S × cd_B) => t.2) q11).1 ∧ p.2.2 ≤ (Sum.elim (fun (p : Int32 × cd_S × cd_B) => p.2.2) (fun (t : cd_S × cd_B) => t.2) q11).2 := ⟨Nat.le_trans hq1 hm12, Nat.le_trans hq2 hn12⟩
              cases q11 with
              | inr t11 =>
                obtain rfl : t11 = p := Sum.inr.inj (KR _ (Option.some.inj h).symm)
                have hlx11 := (kx_X4_refuse l D cA E sz ad _ hj oq sgq sgv hE hX n p10.2 (p8.2.2) (2 : Int32) ((cI p10.2 329 0)) t11 e_q11).1
                exact hp_callQv (As := [.int 2, .int (cI p10.2 329 0)]) (rest := []) cx hw hno ((kx_X4_refuse l D cA E _ ad _ hj oq sgq sgv hE hX n p10.2 (p8.2.2) (2 : Int32) ((cI p10.2 329 0)) t11 e_q11).2) (cwV 2 cx.2.2.2.2.2.1 (cd_giV cm_660 cm_661 cm_662 cm_663 cm_664) rfl rfl rfl hdc_X4_refuse ⟨Nat.le_of_ble_eq_true rfl, Nat.le_of_ble_eq_true rfl⟩) (cd_atO hj (by decide) (by decide)) rfl rfl hl.1 rfl (Nat.le_of_ble_eq_true rfl) dX4_readParameters_85 ⟨by (try dsimp only); omega, by (try dsimp only); omega⟩ (by omega) (by omega)
              | inl p11 =>
                have hle11 := (kc_X4_refuse l D cA E sz ad _ hj oq sgq sgv hE n p10.2 (p8.2.2) (2 : Int32) ((cI p10.2 329 0)) p11 e_q11).1
                have hM10012 : p.2.1 ≤ p11.2.2.1 ∧ p.2.2 ≤ p11.2.2.2 := hM12
                have h := cd_inl h
                refine hp_callVv (As := [.int 2, .int (cI p10.2 329 0)]) (rest := []) cx hw ((kc_X4_refuse l D cA E _ ad _ hj oq sgq sgv hE n p10.2 (p8.2.2) (2 : Int32) ((cI p10.2 329 0)) p11 e_q11).2) (cwV 2 cx.2.2.2.2.2.1 (cd_giV cm_660 cm_661 cm_662 cm_663 cm_664) rfl rfl rfl hdc_X4_refuse ⟨Nat.le_of_ble_eq_true rfl, Nat.le_of_ble_eq_true rfl⟩) (cd_atO hj (by decide) (by decide)) rfl rfl hl.1 rfl (Nat.le_of_ble_eq_true rfl) dX4_readParameters_85 ⟨by (try dsimp only); omega, by (try dsimp only); omega⟩ (fun u H locs hp hw => ?_)
                obtain ⟨ca, hj, rfl⟩ := hp
                refine W.widen (k := b0.1 - p11.2.2.1) (n := b0.2 - p11.2.2.2) (by omega) (by omega) ?_
                exact J88 _ hj p11.2.1 (p11.2.2) l3 _ _ _ (by omega) (by omega) (by omega) (by omega) h hw (lv_sub hl [0, 1, 2] rfl)
        have J57 : ∀ (ca : Nat → Nat) (hj : cd_inj ad ca) (σ : cd_S) (b : cd_B) (l3 : Int32) (H : Heap) (locs : List Loc) (ls : Array Slot), b.1 ≤ b0.1 → b.2 ≤ b0.2 → p.2.1 ≤ b.1 → p.2.2 ≤ b.2 → f_X4_readParameters_J57 n l1 (f_X4_readParameters_L25 n l1 j) σ b l3 = some q → hp_w D vwCl (hp_Tl cA) E (hp_A (cd_pic cA ad ca0 σ0) sz) ss H locs (cd_pic cA ad ca σ) → lv_has ls 4 [(0, .ref (ad 4 0)), (1, .int l1), (3, .int l3)] → W pp l ee ({ frames := 14, cells := b0.1 - p.2.1, slots := b0.2 - p.2.2, locals := 243 }) ss mm [.ref (ad 4 0)].toArray bb mt cd H locs (b0.1 - b.1) (b0.2 - b.2) (vx_MQ bb (hp_Qv D vwCl (hp_Tl cA) sz (cd_pic cA ad ca0 σ0) (fun _ => False)) (hp_XQ D vwCl (hp_Tl cA) "java/lang/IllegalArgumentException" (cd_pic cA ad ca0 σ0) sz (fun u => ∃ ca1, cd_inj ad ca1 ∧ u = cd_pic cA ad ca1 p.1)) [.ref (ad 4 0)].toArray ss (b0.1 - p.2.1) (b0.2 - p.2.2) (hp_A (cd_pic cA ad ca0 σ0) sz)) (F0 mm 57 ls [.ref (ad 4 0)]) := by
          intro ca hj σ b l3 H locs ls hb1 hb2 hf1 hf2 h hw hl
          refine lv_iconst (v := 0) cx.1 cx.2.1 dX4_readParameters_57 (by decide) ?_
          exact J58 _ hj σ b l3 0 _ _ _ (by omega) (by omega) (by omega) (by omega) h hw (lv_sub hl [0, 1, 2] rfl)
        refine lv_iload_n cx.1 cx.2.1 dX4_readParameters_25 rfl (lv_at hl 2 rfl) ?_
        refine lv_if_eq (tgt := 161) cx.1 cx.2.1 dX4_readParameters_26 (by decide) (fun c26 => ?_) (fun c26 => ?_)
        · have h := md_ip c26 h
          exact K _ (Option.some.inj h).symm _ hj _ _ _ (by (try dsimp only); omega) (by (try dsimp only); omega) hw (lv_sub hl [] rfl)
        · have h := md_in c26 h
          refine lv_iload_n cx.1 cx.2.1 dX4_readParameters_29 rfl (lv_at hl 3 rfl) ?_
          refine lv_iconst (v := 3) cx.1 cx.2.1 dX4_readParameters_30 (by decide) ?_
          refine lv_icmp_gt (tgt := 161) cx.1 cx.2.1 dX4_readParameters_31 (by decide) (fun c31 => ?_) (fun c31 => ?_)
          · have h := md_ip c31 h
            exact K _ (Option.some.inj h).symm _ hj _ _ _ (by (try dsimp only); omega) (by (try dsimp only); omega) hw (lv_sub hl [] rfl)
          · have h := md_in c31 h
            refine lv_aload_n cx.1 cx.2.1 dX4_readParameters_34 rfl (lv_at hl 0 rfl) ?_
            obtain ⟨q13, e_q13, h⟩ := md_ob h
            obtain ⟨hm14, hn14, h⟩ := cd_cks h
            have hM14 : p.2.1 ≤ (Sum.elim (fun (p : Int32 × cd_S × cd_B) => p.2.2) (fun (t : cd_S × cd_B) => t.2) q13).1 ∧ p.2.2 ≤ (Sum.elim (fun (p : Int32 × cd_S × cd_B) => p.2.2) (fun (t : cd_S × cd_B) => t.2) q13).2 := ⟨Nat.le_trans hq1 hm14, Nat.le_trans hq2 hn14⟩
            cases q13 with
            | inr t13 =>
              obtain rfl : t13 = p := Sum.inr.inj (KR _ (Option.some.inj h).symm)
              have hlx13 := (kx_X4_needName l D cA E sz ad _ hj oq sgq sgv hE hX n σ b  t13 e_q13).1
              exact hp_callQv (As := []) (rest := []) cx hw hno ((kx_X4_needName l D cA E _ ad _ hj oq sgq sgv hE hX n σ b  t13 e_q13).2) (cwV 0 cx.2.2.2.2.2.1 (cd_giV cm_687 cm_688 cm_689 cm_663 cm_690) rfl rfl rfl hdc_X4_needName ⟨Nat.le_of_ble_eq_true rfl, Nat.le_of_ble_eq_true rfl⟩) (cd_atO hj (by decide) (by decide)) rfl rfl hl.1 rfl (Nat.le_of_ble_eq_true rfl) dX4_readParameters_35 ⟨by (try dsimp only); omega, by (try dsimp only); omega⟩ (by omega) (by omega)
            | inl p13 =>
              have hle13 := (kc_X4_needName l D cA E sz ad _ hj oq sgq sgv hE n σ b  p13 e_q13).1
              have hM10014 : p.2.1 ≤ p13.2.2.1 ∧ p.2.2 ≤ p13.2.2.2 := hM14
              have h := cd_inl h
              refine hp_callVv (As := []) (rest := []) cx hw ((kc_X4_needName l D cA E _ ad _ hj oq sgq sgv hE n σ b  p13 e_q13).2) (cwV 0 cx.2.2.2.2.2.1 (cd_giV cm_687 cm_688 cm_689 cm_663 cm_690) rfl rfl rfl hdc_X4_needName ⟨Nat.le_of_ble_eq_true rfl, Nat.le_of_ble_eq_true rfl⟩) (cd_atO hj (by decide) (by decide)) rfl rfl hl.1 rfl (Nat.le_of_ble_eq_true rfl) dX4_readParameters_35 ⟨by (try dsimp only); omega, by (try dsimp only); omega⟩ (fun u H locs hp hw => ?_)
              obtain ⟨ca, hj, rfl⟩ := hp
              refine W.widen (k := b0.1 - p13.2.2.1) (n := b0.2 - p13.2.2.2) (by omega) (by omega) ?_
              refine lv_aload_n cx.1 cx.2.1 dX4_readParameters_38 rfl (lv_at hl 0 rfl) ?_
              refine lv_iload_n cx.1 cx.2.1 dX4_readParameters_39 rfl (lv_at hl 3 rfl) ?_
              refine lv_iconst (v := 3) cx.1 cx.2.1 dX4_readParameters_40 (by decide) ?_
              refine lv_icmp_ge (tgt := 57) cx.1 cx.2.1 dX4_readParameters_41 (by decide) (fun c41 => ?_) (fun c41 => ?_)
              · have h := md_ip c41 h
                exact J57 _ hj p13.2.1 (p13.2.2) l3 _ _ _ (by omega) (by omega) (by omega) (by omega) h hw (lv_sub hl [0, 1, 3] rfl)
              · have h := md_in c41 h
                refine lv_aload_n cx.1 cx.2.1 dX4_readParameters_44 rfl (lv_at hl 0 rfl) ?_
                refine cd_gI (o := 4) (k := 6) (f := 134) hj cx hw hic4 rfl ⟨by decide, rfl, by decide, rfl⟩ rfl (by decide) (List.mem_cons_of_mem _ cm_728) dX4_readParameters_45 ?_
                refine lv_bipush (v := 12) cx.1 cx.2.1 dX4_readParameters_48 (by decide) ?_
                refine lv_icmp_ge (tgt := 57) cx.1 cx.2.1 dX4_readParameters_50 (by decide) (fun c50 => ?_) (fun c50 => ?_)
                · have h := md_ip c50 h
                  exact J57 _ hj p13.2.1 (p13.2.2) l3 _ _ _ (by omega) (by omega) (by omega) (by omega) h hw (lv_sub hl [0, 1, 3] rfl)
                · have h := md_in c50 h
                  refine lv_iconst (v := 1) cx.1 cx.2.1 dX4_readParameters_53 (by decide) ?_
                  refine lv_goto (tgt := 58) cx.1 cx.2.1 dX4_readParameters_54 (by decide) ?_
                  exact J58 _ hj p13.2.1 (p13.2.2) l3 1 _ _ _ (by omega) (by omega) (by omega) (by omega) h hw (lv_sub hl [0, 1, 3] rfl)
    obtain ⟨q15, e_q15, h⟩ := md_ob h
    obtain ⟨hm16, hn16, h⟩ := cd_cks h
    have hM16 : p.2.1 ≤ (Sum.elim (fun (q : ((Int32 × cd_S × cd_B) ⊕ (cd_S × cd_B))) => Sum.elim (fun (p : (Int32 × cd_S × cd_B)) => p.2.2) (fun (t : cd_S × cd_B) => t.2) q) (fun (q : cd_S × cd_B × Int32 × Int32) => q.2.1) q15).1 ∧ p.2.2 ≤ (Sum.elim (fun (q : ((Int32 × cd_S × cd_B) ⊕ (cd_S × cd_B))) => Sum.elim (fun (p : (Int32 × cd_S × cd_B)) => p.2.2) (fun (t : cd_S × cd_B) => t.2) q) (fun (q : cd_S × cd_B × Int32 × Int32) => q.2.1) q15).2 := ⟨hm16, hn16⟩
    refine L25 n _ hj σ b l1 t0 0 q15 _ _ _ (by omega) (by omega) (by omega) (by omega) hM16.1 hM16.2 e_q15 hw (lv_sub hl [2, 3, 1, 0] rfl) (fun t15 hq15 ca hj H locs ls hb1 hb2 hw hl => ?_) (fun r hr => by subst hr; exact Option.some.inj h)
    subst hq15
    have h := md_inr h
    have hS16 : p.2.1 ≤ t15.2.1.1 ∧ p.2.2 ≤ t15.2.1.2 := hM16
    exact nomatch Option.some.inj h
  refine lv_aload_n cx.1 cx.2.1 dX4_readParameters_0 rfl (lv_at hl 0 rfl) ?_
  refine cd_gI (o := 4) (k := 6) (f := 134) hj cx hw hic4 rfl ⟨by decide, rfl, by decide, rfl⟩ rfl (by decide) (List.mem_cons_of_mem _ cm_728) dX4_readParameters_1 ?_
  refine lv_istore_n (lv' := [(1, .int (cI σ0 134 0)), (0, .ref (ad 4 0))]) cx.1 cx.2.1 dX4_readParameters_4 rfl hl (by decide) rfl (fun ls hl => ?_)
  refine lv_aload_n cx.1 cx.2.1 dX4_readParameters_5 rfl (lv_at hl 1 rfl) ?_
  refine cd_gO (o2 := 10) (e2 := 0) (o := 4) (k := 0) (f := 128) hj cx hw hic4 rfl ⟨by decide, rfl, by decide, rfl⟩ rfl (by decide) ⟨rfl, rfl⟩ (List.mem_cons_of_mem _ cm_658) dX4_readParameters_6 ?_
  refine cd_gI (o := 10) (k := 8) (f := 328) hj cx hw hic10 rfl ⟨by decide, rfl, by decide, rfl⟩ rfl (by decide) (List.mem_cons_of_mem _ cm_665) dX4_readParameters_9 ?_
  refine lv_bipush (v := 41) cx.1 cx.2.1 dX4_readParameters_12 (by decide) ?_
  refine lv_icmp_eq (tgt := 21) cx.1 cx.2.1 dX4_readParameters_14 (by decide) (fun c14 => ?_) (fun c14 => ?_)
  · have h := md_ip c14 h
    refine lv_iconst (v := 0) cx.1 cx.2.1 dX4_readParameters_21 (by decide) ?_
    exact J22 _ hj σ0 b0 ((cI σ0 134 0)) 0 _ _ _ (by omega) (by omega) (by omega) (by omega) h hw (lv_sub hl [1, 0] rfl)
  · have h := md_in c14 h
    refine lv_iconst (v := 1) cx.1 cx.2.1 dX4_readParameters_17 (by decide) ?_
    refine lv_goto (tgt := 22) cx.1 cx.2.1 dX4_readParameters_18 (by decide) ?_
    exact J22 _ hj σ0 b0 ((cI σ0 134 0)) 1 _ _ _ (by omega) (by omega) (by omega) (by omega) h hw (lv_sub hl [1, 0] rfl)
set_option maxHeartbeats 4000000 in
set_option maxRecDepth 100000 in
theorem kx_X4_readRow (l : Launch) (D : va_G) (cA : Nat → ClassId) (E : hp_N) (sz : Nat) (ad : Nat → Nat → Nat) (ca0 : Nat → Nat) (hj : cd_inj ad ca0) (oq sgq sgv : Nat) (hE : cd_E E oq sgq sgv) (hX : cd_X l E) (n d : Nat) (rec : cd_R) (in0 : ∀ (sz : Nat) (ca : Nat → Nat) (_ : cd_inj ad ca) (σ : cd_S) (b : cd_B) (a1 : Int32) (p : Int32 × cd_S × cd_B), rec 0 0 a1 0 σ b = some (Sum.inl p) → (p.2.2.1 ≤ b.1 ∧ p.2.2.2 ≤ b.2) ∧ Met l yX4_readExpression (Cond.code yX4_readExpression cX4_readExpression 2 none :: v_CLS) ({ frames := d + 16, cells := b.1 - p.2.2.1, slots := b.2 - p.2.2.2, locals := 26 * d + 286 }) (hp_Pc D vwCl (hp_Tl cA) E sz (cd_pic cA ad ca σ) [.ref (ad 4 0), .int a1]) (hp_Qv D vwCl (hp_Tl cA) sz (cd_pic cA ad ca σ) (fun u => ∃ ca1, cd_inj ad ca1 ∧ u = cd_pic cA ad ca1 p.2.1)) (b.1 - p.2.2.1) (b.2 - p.2.2.2) (hp_A (cd_pic cA ad ca σ) sz)) (ix0 : ∀ (sz : Nat) (ca : Nat → Nat) (_ : cd_inj ad ca) (σ : cd_S) (b : cd_B) (a1 : Int32) (p : cd_S × cd_B), rec 0 0 a1 0 σ b = some (Sum.inr p) → (p.2.1 ≤ b.1 ∧ p.2.2 ≤ b.2) ∧ vx_Met l yX4_readExpression (Cond.code yX4_readExpression cX4_readExpression 2 none :: v_CLS) ({ frames := d + 16, cells := b.1 - p.2.1, slots := b.2 - p.2.2, locals := 26 * d + 286 }) (hp_Pc D vwCl (hp_Tl cA) E sz (cd_pic cA ad ca σ) [.ref (ad 4 0), .int a1]) (hp_Qv D vwCl (hp_Tl cA) sz (cd_pic cA ad ca σ) (fun _ => False)) (hp_XQ D vwCl (hp_Tl cA) "java/lang/IllegalArgumentException" (cd_pic cA ad ca σ) sz (fun u => ∃ ca1, cd_inj ad ca1 ∧ u = cd_pic cA ad ca1 p.1)) (b.1 - p.2.1) (b.2 - p.2.2) (hp_A (cd_pic cA ad ca σ) sz)) (σ0 : cd_S) (b0 : cd_B) (a1 : Int32) (p : (cd_S × cd_B)) (h : f_X4_readRow n rec σ0 b0 a1 = some (Sum.inr p)) : (p.2.1 ≤ b0.1 ∧ p.2.2 ≤ b0.2) ∧ vx_Met l yX4_readRow (Cond.code yX4_readRow cX4_readRow 3 none :: v_CLS) ({ frames := (d + 1) + 16, cells := b0.1 - p.2.1, slots := b0.2 - p.2.2, locals := 26 * (d + 1) + 286 }) (hp_Pc D vwCl (hp_Tl cA) E sz (cd_pic cA ad ca0 σ0) [.ref (ad 4 0), .int a1]) (hp_Qv D vwCl (hp_Tl cA) sz (cd_pic cA ad ca0 σ0) (fun _ => False)) (hp_XQ D vwCl (hp_Tl cA) "java/lang/IllegalArgumentException" (cd_pic cA ad ca0 σ0) sz (fun u => ∃ ca1, cd_inj ad ca1 ∧ u = cd_pic cA ad ca1 p.1)) (b0.1 - p.2.1) (b0.2 - p.2.2) (hp_A (cd_pic cA ad ca0 σ0) sz) := by
  obtain ⟨hm0, hn0, h⟩ := cd_cks h
  have hM0 : p.2.1 ≤ b0.1 ∧ p.2.2 ≤ b0.2 := ⟨hm0, hn0⟩
  refine ⟨hM0, ?_⟩
  refine hp_ofWx (cc := cX4_readRow) (maxL := 3) (ret := none) (by decide) rfl (Nat.le_of_ble_eq_true rfl) ?_
  intro pp ee ss mm bb mt cd ls cx hsz hw hl hno
  have hl : lv_has ls 3 [(0, .ref (ad 4 0)), (1, .int a1)] := hl
  refine W.widen (k := b0.1 - b0.1) (n := b0.2 - b0.2) (Nat.zero_le _) (Nat.zero_le _) ?_
  refine lv_aload_n cx.1 cx.2.1 dX4_readRow_0 rfl (lv_at hl 0 rfl) ?_
  refine cd_gO (o2 := 10) (e2 := 0) (o := 4) (k := 0) (f := 128) hj cx hw hic4 rfl ⟨by decide, rfl, by decide, rfl⟩ rfl (by decide) ⟨rfl, rfl⟩ (List.mem_cons_of_mem _ cm_658) dX4_readRow_1 ?_
  obtain ⟨p1, e_p1, h⟩ := md_ob h
  refine hp_callVv (As := []) (rest := []) cx hw (kc_X10_advance l D cA E _ ad _ hj oq sgq sgv hE n σ0  p1 e_p1) (cwV 0 cx.2.2.2.2.2.1 (cd_giV cm_670 cm_671 cm_672 cm_301 cm_673) rfl rfl rfl hdc_X10_advance ⟨by (try dsimp only); omega, by (try dsimp only); omega⟩) (cd_atO hj (by decide) (by decide)) rfl rfl hl.1 rfl (Nat.le_of_ble_eq_true rfl) dX4_readRow_4 ⟨by (try dsimp only); omega, by (try dsimp only); omega⟩ (fun u H locs hp hw => ?_)
  obtain ⟨ca, hj, rfl⟩ := hp
  refine lv_aload_n cx.1 cx.2.1 dX4_readRow_7 rfl (lv_at hl 0 rfl) ?_
  refine lv_iload_n cx.1 cx.2.1 dX4_readRow_8 rfl (lv_at hl 1 rfl) ?_
  refine lv_iconst (v := 1) cx.1 cx.2.1 dX4_readRow_9 (by decide) ?_
  refine lv_iadd cx.1 cx.2.1 dX4_readRow_10 ?_
  obtain ⟨q2, e_q2, h⟩ := md_ob h
  obtain ⟨hm3, hn3, h⟩ := cd_cks h
  have hM3 : p.2.1 ≤ (Sum.elim (fun (p : Int32 × cd_S × cd_B) => p.2.2) (fun (t : cd_S × cd_B) => t.2) q2).1 ∧ p.2.2 ≤ (Sum.elim (fun (p : Int32 × cd_S × cd_B) => p.2.2) (fun (t : cd_S × cd_B) => t.2) q2).2 := ⟨hm3, hn3⟩
  cases q2 with
  | inr t2 =>
    obtain rfl : t2 = p := Sum.inr.inj (Option.some.inj h)
    have hlx2 := (ix0 sz _ hj p1.2 b0 ((a1 + 1)) t2 e_q2).1
    exact hp_callQv (As := [.int (a1 + 1)]) (rest := []) cx hw hno ((ix0 _ _ hj p1.2 b0 ((a1 + 1)) t2 e_q2).2) (cwV 1 cx.2.2.2.2.2.1 (cd_giV cm_760 cm_761 cm_762 cm_663 cm_763) rfl rfl rfl hdc_X4_readExpression ⟨by (try dsimp only); omega, by (try dsimp only); omega⟩) (cd_atO hj (by decide) (by decide)) rfl rfl hl.1 rfl (Nat.le_of_ble_eq_true rfl) dX4_readRow_11 ⟨by (try dsimp only); omega, by (try dsimp only); omega⟩ (by omega) (by omega)
  | inl p2 =>
    have hle2 := (in0 sz _ hj p1.2 b0 ((a1 + 1)) p2 e_q2).1
    have hM10003 : p.2.1 ≤ p2.2.2.1 ∧ p.2.2 ≤ p2.2.2.2 := hM3
    have h := cd_inl h
    refine hp_callVv (As := [.int (a1 + 1)]) (rest := []) cx hw ((in0 _ _ hj p1.2 b0 ((a1 + 1)) p2 e_q2).2) (cwV 1 cx.2.2.2.2.2.1 (cd_giV cm_760 cm_761 cm_762 cm_663 cm_763) rfl rfl rfl hdc_X4_readExpression ⟨by (try dsimp only); omega, by (try dsimp only); omega⟩) (cd_atO hj (by decide) (by decide)) rfl rfl hl.1 rfl (Nat.le_of_ble_eq_true rfl) dX4_readRow_11 ⟨by (try dsimp only); omega, by (try dsimp only); omega⟩ (fun u H locs hp hw => ?_)
    obtain ⟨ca, hj, rfl⟩ := hp
    refine W.widen (k := b0.1 - p2.2.2.1) (n := b0.2 - p2.2.2.2) (by omega) (by omega) ?_
    refine lv_iconst (v := 0) cx.1 cx.2.1 dX4_readRow_14 (by decide) ?_
    refine lv_istore_n (lv' := [(2, .int 0), (0, .ref (ad 4 0)), (1, .int a1)]) cx.1 cx.2.1 dX4_readRow_15 rfl hl (by decide) rfl (fun ls hl => ?_)
    have L16 : ∀ (j : Nat) (ca : Nat → Nat) (hj : cd_inj ad ca) (σ : cd_S) (b : cd_B) (l1 : Int32) (l2 : Int32) (q : (((Int32 × cd_S × cd_B) ⊕ (cd_S × cd_B)) ⊕ (cd_S × cd_B × Int32))) (H : Heap) (locs : List Loc) (ls : Array Slot), b.1 ≤ b0.1 → b.2 ≤ b0.2 → p.2.1 ≤ b.1 → p.2.2 ≤ b.2 → p.2.1 ≤ (Sum.elim (fun (q : ((Int32 × cd_S × cd_B) ⊕ (cd_S × cd_B))) => Sum.elim (fun (p : (Int32 × cd_S × cd_B)) => p.2.2) (fun (t : cd_S × cd_B) => t.2) q) (fun (q : cd_S × cd_B × Int32) => q.2.1) q).1 → p.2.2 ≤ (Sum.elim (fun (q : ((Int32 × cd_S × cd_B) ⊕ (cd_S × cd_B))) => Sum.elim (fun (p : (Int32 × cd_S × cd_B)) => p.2.2) (fun (t : cd_S × cd_B) => t.2) q) (fun (q : cd_S × cd_B × Int32) => q.2.1) q).2 → f_X4_readRow_L16 n rec l1 j σ b l2 = some q → hp_w D vwCl (hp_Tl cA) E (hp_A (cd_pic cA ad ca0 σ0) sz) ss H locs (cd_pic cA ad ca σ) → lv_has ls 3 [(0, .ref (ad 4 0)), (1, .int l1), (2, .int l2)] → (∀ t, q = Sum.inr t → (∀ (ca : Nat → Nat) (hj : cd_inj ad ca) (H : Heap) (locs : List Loc) (ls : Array Slot), t.2.1.1 ≤ b0.1 → t.2.1.2 ≤ b0.2 → hp_w D vwCl (hp_Tl cA) E (hp_A (cd_pic cA ad ca0 σ0) sz) ss H locs (cd_pic cA ad ca t.1) → lv_has ls 3 [(0, .ref (ad 4 0))] → W pp l ee ({ frames := (d + 1) + 16, cells := b0.1 - p.2.1, slots := b0.2 - p.2.2, locals := 26 * (d + 1) + 286 }) ss mm [.ref (ad 4 0), .int a1].toArray bb mt cd H locs (b0.1 - t.2.1.1) (b0.2 - t.2.1.2) (vx_MQ bb (hp_Qv D vwCl (hp_Tl cA) sz (cd_pic cA ad ca0 σ0) (fun _ => False)) (hp_XQ D vwCl (hp_Tl cA) "java/lang/IllegalArgumentException" (cd_pic cA ad ca0 σ0) sz (fun u => ∃ ca1, cd_inj ad ca1 ∧ u = cd_pic cA ad ca1 p.1)) [.ref (ad 4 0), .int a1].toArray ss (b0.1 - p.2.1) (b0.2 - p.2.2) (hp_A (cd_pic cA ad ca0 σ0) sz)) (F0 mm 70 ls []))) → (∀ r, q = Sum.inl r → r = Sum.inr p) → W pp l ee ({ frames := (d + 1) + 16, cells := b0.1 - p.2.1, slots := b0.2 - p.2.2, locals := 26 * (d + 1) + 286 }) ss mm [.ref (ad 4 0), .int a1].toArray bb mt cd H locs (b0.1 - b.1) (b0.2 - b.2) (vx_MQ bb (hp_Qv D vwCl (hp_Tl cA) sz (cd_pic cA ad ca0 σ0) (fun _ => False)) (hp_XQ D vwCl (hp_Tl cA) "java/lang/IllegalArgumentException" (cd_pic cA ad ca0 σ0) sz (fun u => ∃ ca1, cd_inj ad ca1 ∧ u = cd_pic cA ad ca1 p.1)) [.ref (ad 4 0), .int a1].toArray ss (b0.1 - p.2.1) (b0.2 - p.2.2) (hp_A (cd_pic cA ad ca0 σ0) sz)) (F0 mm 16 ls []) := by
      intro j
      induction j with
      | zero => intro ca hj σ b l1 l2 q H locs ls hb1 hb2 hf1 hf2 hq1 hq2 h; exact nomatch h
      | succ j ih =>
        intro ca hj σ b l1 l2 q H locs ls hb1 hb2 hf1 hf2 hq1 hq2 h hw hl K KR
        unfold f_X4_readRow_L16 at h
        refine lv_iload_n cx.1 cx.2.1 dX4_readRow_16 rfl (lv_at hl 2 rfl) ?_
        refine lv_sipush (v := 3000) cx.1 cx.2.1 dX4_readRow_17 (by decide) ?_
        refine lv_icmp_ge (tgt := 70) cx.1 cx.2.1 dX4_readRow_20 (by decide) (fun c20 => ?_) (fun c20 => ?_)
        · have h := md_ip c20 h
          exact K _ (Option.some.inj h).symm _ hj _ _ _ (by (try dsimp only); omega) (by (try dsimp only); omega) hw (lv_sub hl [0] rfl)
        · have h := md_in c20 h
          refine lv_aload_n cx.1 cx.2.1 dX4_readRow_23 rfl (lv_at hl 0 rfl) ?_
          refine cd_gO (o2 := 10) (e2 := 0) (o := 4) (k := 0) (f := 128) hj cx hw hic4 rfl ⟨by decide, rfl, by decide, rfl⟩ rfl (by decide) ⟨rfl, rfl⟩ (List.mem_cons_of_mem _ cm_658) dX4_readRow_24 ?_
          refine cd_gI (o := 10) (k := 8) (f := 328) hj cx hw hic10 rfl ⟨by decide, rfl, by decide, rfl⟩ rfl (by decide) (List.mem_cons_of_mem _ cm_665) dX4_readRow_27 ?_
          refine lv_bipush (v := 59) cx.1 cx.2.1 dX4_readRow_30 (by decide) ?_
          refine lv_icmp_ne (tgt := 70) cx.1 cx.2.1 dX4_readRow_32 (by decide) (fun c32 => ?_) (fun c32 => ?_)
          · have h := md_in c32 h
            exact K _ (Option.some.inj h).symm _ hj _ _ _ (by (try dsimp only); omega) (by (try dsimp only); omega) hw (lv_sub hl [0] rfl)
          · have h := md_ip c32 h
            refine lv_aload_n cx.1 cx.2.1 dX4_readRow_35 rfl (lv_at hl 0 rfl) ?_
            obtain ⟨q4, e_q4, h⟩ := md_ob h
            obtain ⟨hm5, hn5, h⟩ := cd_cks h
            have hM5 : p.2.1 ≤ (Sum.elim (fun (p : Int32 × cd_S × cd_B) => p.2.2) (fun (t : cd_S × cd_B) => t.2) q4).1 ∧ p.2.2 ≤ (Sum.elim (fun (p : Int32 × cd_S × cd_B) => p.2.2) (fun (t : cd_S × cd_B) => t.2) q4).2 := ⟨Nat.le_trans hq1 hm5, Nat.le_trans hq2 hn5⟩
            cases q4 with
            | inr t4 =>
              obtain rfl : t4 = p := Sum.inr.inj (KR _ (Option.some.inj h).symm)
              have hlx4 := (kx_X4_part l D cA E sz ad _ hj oq sgq sgv hE hX n σ b  t4 e_q4).1
              exact hp_callQv (As := []) (rest := []) cx hw hno ((kx_X4_part l D cA E _ ad _ hj oq sgq sgv hE hX n σ b  t4 e_q4).2) (cwV 0 cx.2.2.2.2.2.1 (cd_giV cm_764 cm_765 cm_766 cm_663 cm_767) rfl rfl rfl hdc_X4_part ⟨by (try dsimp only); omega, by (try dsimp only); omega⟩) (cd_atO hj (by decide) (by decide)) rfl rfl hl.1 rfl (Nat.le_of_ble_eq_true rfl) dX4_readRow_36 ⟨by (try dsimp only); omega, by (try dsimp only); omega⟩ (by omega) (by omega)
            | inl p4 =>
              have hle4 := (kc_X4_part l D cA E sz ad _ hj oq sgq sgv hE n σ b  p4 e_q4).1
              have hM10005 : p.2.1 ≤ p4.2.2.1 ∧ p.2.2 ≤ p4.2.2.2 := hM5
              have h := cd_inl h
              refine hp_callVv (As := []) (rest := []) cx hw ((kc_X4_part l D cA E _ ad _ hj oq sgq sgv hE n σ b  p4 e_q4).2) (cwV 0 cx.2.2.2.2.2.1 (cd_giV cm_764 cm_765 cm_766 cm_663 cm_767) rfl rfl rfl hdc_X4_part ⟨by (try dsimp only); omega, by (try dsimp only); omega⟩) (cd_atO hj (by decide) (by decide)) rfl rfl hl.1 rfl (Nat.le_of_ble_eq_true rfl) dX4_readRow_36 ⟨by (try dsimp only); omega, by (try dsimp only); omega⟩ (fun u H locs hp hw => ?_)
              obtain ⟨ca, hj, rfl⟩ := hp
              refine W.widen (k := b0.1 - p4.2.2.1) (n := b0.2 - p4.2.2.2) (by omega) (by omega) ?_
              refine lv_aload_n cx.1 cx.2.1 dX4_readRow_39 rfl (lv_at hl 0 rfl) ?_
              obtain ⟨u6, e_u6, h⟩ := md_ob h
              have hb_u6 : u6 < 60 := (cd_dps e_u6).2
              refine cd_gP (o2 := 9) (u := u6) (o := 4) (k := 8) (f := 136) hj cx hw hic4 rfl ⟨by decide, rfl, by decide, rfl⟩ rfl (by decide) rfl e_u6 (List.mem_cons_of_mem _ cm_749) dX4_readRow_40 ?_
              refine lv_bipush (v := 16) cx.1 cx.2.1 dX4_readRow_43 (by decide) ?_
              refine lv_iconst (v := 0) cx.1 cx.2.1 dX4_readRow_45 (by decide) ?_
              refine lv_iconst (v := 0) cx.1 cx.2.1 dX4_readRow_46 (by decide) ?_
              obtain ⟨p7, e_p7, h⟩ := md_ob h
              obtain ⟨hm8, hn8, h⟩ := cd_cks h
              have hM8 : p.2.1 ≤ p7.2.2.1 ∧ p.2.2 ≤ p7.2.2.2 := ⟨Nat.le_trans hq1 hm8, Nat.le_trans hq2 hn8⟩
              have hle7 := (kc_X9_emit l D cA E sz ad _ hj oq sgq sgv hE n p4.2.1 (p4.2.2) u6 (16 : Int32) (0 : Int32) (0 : Int32) (show _ < 60 by omega) p7 e_p7).1
              refine hp_callVv (As := [.int 16, .int 0, .int 0]) (rest := []) cx hw ((kc_X9_emit l D cA E _ ad _ hj oq sgq sgv hE n p4.2.1 (p4.2.2) u6 (16 : Int32) (0 : Int32) (0 : Int32) (show _ < 60 by omega) p7 e_p7).2) (cwV 3 cx.2.2.2.2.2.1 (cd_giV cm_781 cm_782 cm_783 cm_114 cm_784) rfl rfl rfl hdc_X9_emit ⟨by (try dsimp only); omega, by (try dsimp only); omega⟩) (cd_atO hj (by decide) (show _ < 60 by omega)) rfl rfl hl.1 rfl (Nat.le_of_ble_eq_true rfl) dX4_readRow_47 ⟨by (try dsimp only); omega, by (try dsimp only); omega⟩ (fun u H locs hp hw => ?_)
              obtain ⟨ca, hj, rfl⟩ := hp
              refine W.widen (k := b0.1 - p7.2.2.1) (n := b0.2 - p7.2.2.2) (by omega) (by omega) ?_
              refine lv_aload_n cx.1 cx.2.1 dX4_readRow_50 rfl (lv_at hl 0 rfl) ?_
              refine cd_gO (o2 := 10) (e2 := 0) (o := 4) (k := 0) (f := 128) hj cx hw hic4 rfl ⟨by decide, rfl, by decide, rfl⟩ rfl (by decide) ⟨rfl, rfl⟩ (List.mem_cons_of_mem _ cm_658) dX4_readRow_51 ?_
              obtain ⟨p9, e_p9, h⟩ := md_ob h
              refine hp_callVv (As := []) (rest := []) cx hw (kc_X10_advance l D cA E _ ad _ hj oq sgq sgv hE n p7.2.1  p9 e_p9) (cwV 0 cx.2.2.2.2.2.1 (cd_giV cm_670 cm_671 cm_672 cm_301 cm_673) rfl rfl rfl hdc_X10_advance ⟨by (try dsimp only); omega, by (try dsimp only); omega⟩) (cd_atO hj (by decide) (by decide)) rfl rfl hl.1 rfl (Nat.le_of_ble_eq_true rfl) dX4_readRow_54 ⟨by (try dsimp only); omega, by (try dsimp only); omega⟩ (fun u H locs hp hw => ?_)
              obtain ⟨ca, hj, rfl⟩ := hp
              refine lv_aload_n cx.1 cx.2.1 dX4_readRow_57 rfl (lv_at hl 0 rfl) ?_
              refine lv_iload_n cx.1 cx.2.1 dX4_readRow_58 rfl (lv_at hl 1 rfl) ?_
              refine lv_iconst (v := 1) cx.1 cx.2.1 dX4_readRow_59 (by decide) ?_
              refine lv_iadd cx.1 cx.2.1 dX4_readRow_60 ?_
              obtain ⟨q10, e_q10, h⟩ := md_ob h
              obtain ⟨hm11, hn11, h⟩ := cd_cks h
              have hM11 : p.2.1 ≤ (Sum.elim (fun (p : Int32 × cd_S × cd_B) => p.2.2) (fun (t : cd_S × cd_B) => t.2) q10).1 ∧ p.2.2 ≤ (Sum.elim (fun (p : Int32 × cd_S × cd_B) => p.2.2) (fun (t : cd_S × cd_B) => t.2) q10).2 := ⟨Nat.le_trans hq1 hm11, Nat.le_trans hq2 hn11⟩
              cases q10 with
              | inr t10 =>
                obtain rfl : t10 = p := Sum.inr.inj (KR _ (Option.some.inj h).symm)
                have hlx10 := (ix0 sz _ hj p9.2 (p7.2.2) ((l1 + 1)) t10 e_q10).1
                exact hp_callQv (As := [.int (l1 + 1)]) (rest := []) cx hw hno ((ix0 _ _ hj p9.2 (p7.2.2) ((l1 + 1)) t10 e_q10).2) (cwV 1 cx.2.2.2.2.2.1 (cd_giV cm_760 cm_761 cm_762 cm_663 cm_763) rfl rfl rfl hdc_X4_readExpression ⟨by (try dsimp only); omega, by (try dsimp only); omega⟩) (cd_atO hj (by decide) (by decide)) rfl rfl hl.1 rfl (Nat.le_of_ble_eq_true rfl) dX4_readRow_61 ⟨by (try dsimp only); omega, by (try dsimp only); omega⟩ (by omega) (by omega)
              | inl p10 =>
                have hle10 := (in0 sz _ hj p9.2 (p7.2.2) ((l1 + 1)) p10 e_q10).1
                have hM10011 : p.2.1 ≤ p10.2.2.1 ∧ p.2.2 ≤ p10.2.2.2 := hM11
                have h := cd_inl h
                refine hp_callVv (As := [.int (l1 + 1)]) (rest := []) cx hw ((in0 _ _ hj p9.2 (p7.2.2) ((l1 + 1)) p10 e_q10).2) (cwV 1 cx.2.2.2.2.2.1 (cd_giV cm_760 cm_761 cm_762 cm_663 cm_763) rfl rfl rfl hdc_X4_readExpression ⟨by (try dsimp only); omega, by (try dsimp only); omega⟩) (cd_atO hj (by decide) (by decide)) rfl rfl hl.1 rfl (Nat.le_of_ble_eq_true rfl) dX4_readRow_61 ⟨by (try dsimp only); omega, by (try dsimp only); omega⟩ (fun u H locs hp hw => ?_)
                obtain ⟨ca, hj, rfl⟩ := hp
                refine W.widen (k := b0.1 - p10.2.2.1) (n := b0.2 - p10.2.2.2) (by omega) (by omega) ?_
                refine lv_iinc (v := (l2 + 1)) (lv' := [(2, .int (l2 + 1)), (0, .ref (ad 4 0)), (1, .int l1)]) cx.1 cx.2.1 dX4_readRow_64 hl (k := 2) rfl rfl (by decide) rfl (fun ls hl => ?_)
                refine lv_goto (tgt := 16) cx.1 cx.2.1 dX4_readRow_67 (by decide) ?_
                exact ih _ hj p10.2.1 (p10.2.2) l1 ((l2 + 1)) q _ _ _ (by omega) (by omega) (by omega) (by omega) hq1 hq2 h hw (lv_sub hl [1, 2, 0] rfl) K KR
    obtain ⟨q12, e_q12, h⟩ := md_ob h
    obtain ⟨hm13, hn13, h⟩ := cd_cks h
    have hM13 : p.2.1 ≤ (Sum.elim (fun (q : ((Int32 × cd_S × cd_B) ⊕ (cd_S × cd_B))) => Sum.elim (fun (p : (Int32 × cd_S × cd_B)) => p.2.2) (fun (t : cd_S × cd_B) => t.2) q) (fun (q : cd_S × cd_B × Int32) => q.2.1) q12).1 ∧ p.2.2 ≤ (Sum.elim (fun (q : ((Int32 × cd_S × cd_B) ⊕ (cd_S × cd_B))) => Sum.elim (fun (p : (Int32 × cd_S × cd_B)) => p.2.2) (fun (t : cd_S × cd_B) => t.2) q) (fun (q : cd_S × cd_B × Int32) => q.2.1) q12).2 := ⟨hm13, hn13⟩
    refine L16 n _ hj p2.2.1 (p2.2.2) a1 0 q12 _ _ _ (by omega) (by omega) (by omega) (by omega) hM13.1 hM13.2 e_q12 hw (lv_sub hl [1, 2, 0] rfl) (fun t12 hq12 ca hj H locs ls hb1 hb2 hw hl => ?_) (fun r hr => by subst hr; exact Option.some.inj h)
    subst hq12
    have h := md_inr h
    have hS13 : p.2.1 ≤ t12.2.1.1 ∧ p.2.2 ≤ t12.2.1.2 := hM13
    refine lv_aload_n cx.1 cx.2.1 dX4_readRow_70 rfl (lv_at hl 0 rfl) ?_
    refine lv_bipush (v := 125) cx.1 cx.2.1 dX4_readRow_71 (by decide) ?_
    obtain ⟨q14, e_q14, h⟩ := md_ob h
    obtain ⟨hm15, hn15, h⟩ := cd_cks h
    have hM15 : p.2.1 ≤ (Sum.elim (fun (p : Int32 × cd_S × cd_B) => p.2.2) (fun (t : cd_S × cd_B) => t.2) q14).1 ∧ p.2.2 ≤ (Sum.elim (fun (p : Int32 × cd_S × cd_B) => p.2.2) (fun (t : cd_S × cd_B) => t.2) q14).2 := ⟨hm15, hn15⟩
    cases q14 with
    | inr t14 =>
      obtain rfl : t14 = p := Sum.inr.inj (Option.some.inj h)
      have hlx14 := (kx_X4_pass l D cA E sz ad _ hj oq sgq sgv hE hX n t12.1 (t12.2.1) (125 : Int32) t14 e_q14).1
      exact hp_callQv (As := [.int 125]) (rest := []) cx hw hno ((kx_X4_pass l D cA E _ ad _ hj oq sgq sgv hE hX n t12.1 (t12.2.1) (125 : Int32) t14 e_q14).2) (cwV 1 cx.2.2.2.2.2.1 (cd_giV cm_714 cm_715 cm_716 cm_663 cm_717) rfl rfl rfl hdc_X4_pass ⟨by (try dsimp only); omega, by (try dsimp only); omega⟩) (cd_atO hj (by decide) (by decide)) rfl rfl hl.1 rfl (Nat.le_of_ble_eq_true rfl) dX4_readRow_73 ⟨by (try dsimp only); omega, by (try dsimp only); omega⟩ (by omega) (by omega)
    | inl p14 =>
      have hle14 := (kc_X4_pass l D cA E sz ad _ hj oq sgq sgv hE n t12.1 (t12.2.1) (125 : Int32) p14 e_q14).1
      have hM10015 : p.2.1 ≤ p14.2.2.1 ∧ p.2.2 ≤ p14.2.2.2 := hM15
      have h := cd_inl h
      refine hp_callVv (As := [.int 125]) (rest := []) cx hw ((kc_X4_pass l D cA E _ ad _ hj oq sgq sgv hE n t12.1 (t12.2.1) (125 : Int32) p14 e_q14).2) (cwV 1 cx.2.2.2.2.2.1 (cd_giV cm_714 cm_715 cm_716 cm_663 cm_717) rfl rfl rfl hdc_X4_pass ⟨by (try dsimp only); omega, by (try dsimp only); omega⟩) (cd_atO hj (by decide) (by decide)) rfl rfl hl.1 rfl (Nat.le_of_ble_eq_true rfl) dX4_readRow_73 ⟨by (try dsimp only); omega, by (try dsimp only); omega⟩ (fun u H locs hp hw => ?_)
      obtain ⟨ca, hj, rfl⟩ := hp
      refine W.widen (k := b0.1 - p14.2.2.1) (n := b0.2 - p14.2.2.2) (by omega) (by omega) ?_
      exact nomatch Option.some.inj h
set_option maxHeartbeats 4000000 in
set_option maxRecDepth 100000 in
theorem kx_X4_readFun (l : Launch) (D : va_G) (cA : Nat → ClassId) (E : hp_N) (sz : Nat) (ad : Nat → Nat → Nat) (ca0 : Nat → Nat) (hj : cd_inj ad ca0) (oq sgq sgv : Nat) (hE : cd_E E oq sgq sgv) (hX : cd_X l E) (n d : Nat) (rec : cd_R) (in18 : ∀ (sz : Nat) (ca : Nat → Nat) (_ : cd_inj ad ca) (σ : cd_S) (b : cd_B) (a1 : Int32) (p : Int32 × cd_S × cd_B), rec 18 0 a1 0 σ b = some (Sum.inl p) → (p.2.2.1 ≤ b.1 ∧ p.2.2.2 ≤ b.2) ∧ Met l yX4_readRow (Cond.code yX4_readRow cX4_readRow 3 none :: v_CLS) ({ frames := d + 16, cells := b.1 - p.2.2.1, slots := b.2 - p.2.2.2, locals := 26 * d + 286 }) (hp_Pc D vwCl (hp_Tl cA) E sz (cd_pic cA ad ca σ) [.ref (ad 4 0), .int a1]) (hp_Qv D vwCl (hp_Tl cA) sz (cd_pic cA ad ca σ) (fun u => ∃ ca1, cd_inj ad ca1 ∧ u = cd_pic cA ad ca1 p.2.1)) (b.1 - p.2.2.1) (b.2 - p.2.2.2) (hp_A (cd_pic cA ad ca σ) sz)) (ix18 : ∀ (sz : Nat) (ca : Nat → Nat) (_ : cd_inj ad ca) (σ : cd_S) (b : cd_B) (a1 : Int32) (p : cd_S × cd_B), rec 18 0 a1 0 σ b = some (Sum.inr p) → (p.2.1 ≤ b.1 ∧ p.2.2 ≤ b.2) ∧ vx_Met l yX4_readRow (Cond.code yX4_readRow cX4_readRow 3 none :: v_CLS) ({ frames := d + 16, cells := b.1 - p.2.1, slots := b.2 - p.2.2, locals := 26 * d + 286 }) (hp_Pc D vwCl (hp_Tl cA) E sz (cd_pic cA ad ca σ) [.ref (ad 4 0), .int a1]) (hp_Qv D vwCl (hp_Tl cA) sz (cd_pic cA ad ca σ) (fun _ => False)) (hp_XQ D vwCl (hp_Tl cA) "java/lang/IllegalArgumentException" (cd_pic cA ad ca σ) sz (fun u => ∃ ca1, cd_inj ad ca1 ∧ u = cd_pic cA ad ca1 p.1)) (b.1 - p.2.1) (b.2 - p.2.2) (hp_A (cd_pic cA ad ca σ) sz)) (σ0 : cd_S) (b0 : cd_B) (a1 : Int32) (p : (cd_S × cd_B)) (h : f_X4_readFun n rec σ0 b0 a1 = some (Sum.inr p)) : (p.2.1 ≤ b0.1 ∧ p.2.2 ≤ b0.2) ∧ vx_Met l yX4_readFun (Cond.code yX4_readFun cX4_readFun 4 none :: v_CLS) ({ frames := (d + 1) + 16, cells := b0.1 - p.2.1, slots := b0.2 - p.2.2, locals := 26 * (d + 1) + 286 }) (hp_Pc D vwCl (hp_Tl cA) E sz (cd_pic cA ad ca0 σ0) [.ref (ad 4 0), .int a1]) (hp_Qv D vwCl (hp_Tl cA) sz (cd_pic cA ad ca0 σ0) (fun _ => False)) (hp_XQ D vwCl (hp_Tl cA) "java/lang/IllegalArgumentException" (cd_pic cA ad ca0 σ0) sz (fun u => ∃ ca1, cd_inj ad ca1 ∧ u = cd_pic cA ad ca1 p.1)) (b0.1 - p.2.1) (b0.2 - p.2.2) (hp_A (cd_pic cA ad ca0 σ0) sz) := by
  obtain ⟨hm0, hn0, h⟩ := cd_cks h
  have hM0 : p.2.1 ≤ b0.1 ∧ p.2.2 ≤ b0.2 := ⟨hm0, hn0⟩
  refine ⟨hM0, ?_⟩
  refine hp_ofWx (cc := cX4_readFun) (maxL := 4) (ret := none) (by decide) rfl (Nat.le_of_ble_eq_true rfl) ?_
  intro pp ee ss mm bb mt cd ls cx hsz hw hl hno
  have hl : lv_has ls 4 [(0, .ref (ad 4 0)), (1, .int a1)] := hl
  refine W.widen (k := b0.1 - b0.1) (n := b0.2 - b0.2) (Nat.zero_le _) (Nat.zero_le _) ?_
  have J61 : ∀ (ca : Nat → Nat) (hj : cd_inj ad ca) (σ : cd_S) (b : cd_B) (l1 : Int32) (l2 : Int32) (l3 : Nat) (t0 : Int32) (H : Heap) (locs : List Loc) (ls : Array Slot), l3 < 60 → b.1 ≤ b0.1 → b.2 ≤ b0.2 → p.2.1 ≤ b.1 → p.2.2 ≤ b.2 → f_X4_readFun_J61 n rec σ b l1 l2 l3 t0 = some (Sum.inr p) → hp_w D vwCl (hp_Tl cA) E (hp_A (cd_pic cA ad ca0 σ0) sz) ss H locs (cd_pic cA ad ca σ) → lv_has ls 4 [(0, .ref (ad 4 0)), (1, .int l1), (2, .int l2), (3, .ref (ad 9 l3))] → W pp l ee ({ frames := (d + 1) + 16, cells := b0.1 - p.2.1, slots := b0.2 - p.2.2, locals := 26 * (d + 1) + 286 }) ss mm [.ref (ad 4 0), .int a1].toArray bb mt cd H locs (b0.1 - b.1) (b0.2 - b.2) (vx_MQ bb (hp_Qv D vwCl (hp_Tl cA) sz (cd_pic cA ad ca0 σ0) (fun _ => False)) (hp_XQ D vwCl (hp_Tl cA) "java/lang/IllegalArgumentException" (cd_pic cA ad ca0 σ0) sz (fun u => ∃ ca1, cd_inj ad ca1 ∧ u = cd_pic cA ad ca1 p.1)) [.ref (ad 4 0), .int a1].toArray ss (b0.1 - p.2.1) (b0.2 - p.2.2) (hp_A (cd_pic cA ad ca0 σ0) sz)) (F0 mm 61 ls [.int t0, .ref (ad 4 0)]) := by
    intro ca hj σ b l1 l2 l3 t0 H locs ls hb_l3 hb1 hb2 hf1 hf2 h hw hl
    obtain ⟨q1, e_q1, h⟩ := md_ob h
    obtain ⟨hm2, hn2, h⟩ := cd_cks h
    have hM2 : p.2.1 ≤ (Sum.elim (fun (p : Int32 × cd_S × cd_B) => p.2.2) (fun (t : cd_S × cd_B) => t.2) q1).1 ∧ p.2.2 ≤ (Sum.elim (fun (p : Int32 × cd_S × cd_B) => p.2.2) (fun (t : cd_S × cd_B) => t.2) q1).2 := ⟨hm2, hn2⟩
    cases q1 with
    | inr t1 =>
      obtain rfl : t1 = p := Sum.inr.inj (Option.some.inj h)
      have hlx1 := (kx_X4_need l D cA E sz ad _ hj oq sgq sgv hE hX n σ b t0 t1 e_q1).1
      exact hp_callQv (As := [.int t0]) (rest := []) cx hw hno ((kx_X4_need l D cA E _ ad _ hj oq sgq sgv hE hX n σ b t0 t1 e_q1).2) (cwV 1 cx.2.2.2.2.2.1 (cd_giV cm_666 cm_667 cm_668 cm_663 cm_669) rfl rfl rfl hdc_X4_need ⟨by (try dsimp only); omega, by (try dsimp only); omega⟩) (cd_atO hj (by decide) (by decide)) rfl rfl hl.1 rfl (Nat.le_of_ble_eq_true rfl) dX4_readFun_61 ⟨by (try dsimp only); omega, by (try dsimp only); omega⟩ (by omega) (by omega)
    | inl p1 =>
      have hle1 := (kc_X4_need l D cA E sz ad _ hj oq sgq sgv hE n σ b t0 p1 e_q1).1
      have hM10002 : p.2.1 ≤ p1.2.2.1 ∧ p.2.2 ≤ p1.2.2.2 := hM2
      have h := cd_inl h
      refine hp_callVv (As := [.int t0]) (rest := []) cx hw ((kc_X4_need l D cA E _ ad _ hj oq sgq sgv hE n σ b t0 p1 e_q1).2) (cwV 1 cx.2.2.2.2.2.1 (cd_giV cm_666 cm_667 cm_668 cm_663 cm_669) rfl rfl rfl hdc_X4_need ⟨by (try dsimp only); omega, by (try dsimp only); omega⟩) (cd_atO hj (by decide) (by decide)) rfl rfl hl.1 rfl (Nat.le_of_ble_eq_true rfl) dX4_readFun_61 ⟨by (try dsimp only); omega, by (try dsimp only); omega⟩ (fun u H locs hp hw => ?_)
      obtain ⟨ca, hj, rfl⟩ := hp
      refine W.widen (k := b0.1 - p1.2.2.1) (n := b0.2 - p1.2.2.2) (by omega) (by omega) ?_
      refine lv_aload_n cx.1 cx.2.1 dX4_readFun_64 rfl (lv_at hl 0 rfl) ?_
      refine lv_iload_n cx.1 cx.2.1 dX4_readFun_65 rfl (lv_at hl 1 rfl) ?_
      obtain ⟨q3, e_q3, h⟩ := md_ob h
      obtain ⟨hm4, hn4, h⟩ := cd_cks h
      have hM4 : p.2.1 ≤ (Sum.elim (fun (p : Int32 × cd_S × cd_B) => p.2.2) (fun (t : cd_S × cd_B) => t.2) q3).1 ∧ p.2.2 ≤ (Sum.elim (fun (p : Int32 × cd_S × cd_B) => p.2.2) (fun (t : cd_S × cd_B) => t.2) q3).2 := ⟨hm4, hn4⟩
      cases q3 with
      | inr t3 =>
        obtain rfl : t3 = p := Sum.inr.inj (Option.some.inj h)
        have hlx3 := (ix18 sz _ hj p1.2.1 (p1.2.2) l1 t3 e_q3).1
        exact hp_callQv (As := [.int l1]) (rest := []) cx hw hno ((ix18 _ _ hj p1.2.1 (p1.2.2) l1 t3 e_q3).2) (cwV 1 cx.2.2.2.2.2.1 (cd_giV cm_815 cm_816 cm_817 cm_663 cm_818) rfl rfl rfl hdc_X4_readRow ⟨by (try dsimp only); omega, by (try dsimp only); omega⟩) (cd_atO hj (by decide) (by decide)) rfl rfl hl.1 rfl (Nat.le_of_ble_eq_true rfl) dX4_readFun_66 ⟨by (try dsimp only); omega, by (try dsimp only); omega⟩ (by omega) (by omega)
      | inl p3 =>
        have hle3 := (in18 sz _ hj p1.2.1 (p1.2.2) l1 p3 e_q3).1
        have hM10004 : p.2.1 ≤ p3.2.2.1 ∧ p.2.2 ≤ p3.2.2.2 := hM4
        have h := cd_inl h
        refine hp_callVv (As := [.int l1]) (rest := []) cx hw ((in18 _ _ hj p1.2.1 (p1.2.2) l1 p3 e_q3).2) (cwV 1 cx.2.2.2.2.2.1 (cd_giV cm_815 cm_816 cm_817 cm_663 cm_818) rfl rfl rfl hdc_X4_readRow ⟨by (try dsimp only); omega, by (try dsimp only); omega⟩) (cd_atO hj (by decide) (by decide)) rfl rfl hl.1 rfl (Nat.le_of_ble_eq_true rfl) dX4_readFun_66 ⟨by (try dsimp only); omega, by (try dsimp only); omega⟩ (fun u H locs hp hw => ?_)
        obtain ⟨ca, hj, rfl⟩ := hp
        refine W.widen (k := b0.1 - p3.2.2.1) (n := b0.2 - p3.2.2.2) (by omega) (by omega) ?_
        refine lv_aload_n cx.1 cx.2.1 dX4_readFun_69 rfl (lv_at hl 0 rfl) ?_
        refine lv_iload_n cx.1 cx.2.1 dX4_readFun_70 rfl (lv_at hl 2 rfl) ?_
        obtain ⟨σ5, e_σ5, h⟩ := md_ob h
        refine cd_pI (o := 4) (k := 6) (f := 134) hj cx hw hic4 rfl ⟨by decide, rfl, by decide, rfl⟩ tyX4_ok nmX4 rfl (by decide) rfl (List.mem_cons_of_mem _ cm_728) rfl e_σ5 dX4_readFun_71 (fun H locs hw => ?_)
        refine lv_aload_n cx.1 cx.2.1 dX4_readFun_74 rfl (lv_at hl 0 rfl) ?_
        refine lv_aload_n cx.1 cx.2.1 dX4_readFun_75 rfl (lv_at hl 3 rfl) ?_
        refine lv_bipush (v := 9) cx.1 cx.2.1 dX4_readFun_76 (by decide) ?_
        obtain ⟨p6, e_p6, h⟩ := md_ob h
        obtain ⟨hm7, hn7, h⟩ := cd_cks h
        have hM7 : p.2.1 ≤ p6.2.2.1 ∧ p.2.2 ≤ p6.2.2.2 := ⟨hm7, hn7⟩
        have hle6 := (kc_X4_closeInner l D cA E sz ad _ hj oq sgq sgv hE n σ5 (p3.2.2) l3 (9 : Int32) (show _ < 60 by omega) p6 e_p6).1
        refine hp_callVv (As := [.ref (ad 9 l3), .int 9]) (rest := []) cx hw ((kc_X4_closeInner l D cA E _ ad _ hj oq sgq sgv hE n σ5 (p3.2.2) l3 (9 : Int32) (show _ < 60 by omega) p6 e_p6).2) (cwV 2 cx.2.2.2.2.2.1 (cd_giV cm_819 cm_820 cm_821 cm_663 cm_822) rfl rfl rfl hdc_X4_closeInner ⟨by (try dsimp only); omega, by (try dsimp only); omega⟩) (cd_atO hj (by decide) (by decide)) rfl rfl hl.1 rfl (Nat.le_of_ble_eq_true rfl) dX4_readFun_78 ⟨by (try dsimp only); omega, by (try dsimp only); omega⟩ (fun u H locs hp hw => ?_)
        obtain ⟨ca, hj, rfl⟩ := hp
        refine W.widen (k := b0.1 - p6.2.2.1) (n := b0.2 - p6.2.2.2) (by omega) (by omega) ?_
        exact nomatch Option.some.inj h
  refine lv_aload_n cx.1 cx.2.1 dX4_readFun_0 rfl (lv_at hl 0 rfl) ?_
  obtain ⟨q8, e_q8, h⟩ := md_ob h
  obtain ⟨hm9, hn9, h⟩ := cd_cks h
  have hM9 : p.2.1 ≤ (Sum.elim (fun (p : Int32 × cd_S × cd_B) => p.2.2) (fun (t : cd_S × cd_B) => t.2) q8).1 ∧ p.2.2 ≤ (Sum.elim (fun (p : Int32 × cd_S × cd_B) => p.2.2) (fun (t : cd_S × cd_B) => t.2) q8).2 := ⟨hm9, hn9⟩
  cases q8 with
  | inr t8 =>
    obtain rfl : t8 = p := Sum.inr.inj (Option.some.inj h)
    have hlx8 := (kx_X4_part l D cA E sz ad _ hj oq sgq sgv hE hX n σ0 b0  t8 e_q8).1
    exact hp_callQv (As := []) (rest := []) cx hw hno ((kx_X4_part l D cA E _ ad _ hj oq sgq sgv hE hX n σ0 b0  t8 e_q8).2) (cwV 0 cx.2.2.2.2.2.1 (cd_giV cm_764 cm_765 cm_766 cm_663 cm_767) rfl rfl rfl hdc_X4_part ⟨by (try dsimp only); omega, by (try dsimp only); omega⟩) (cd_atO hj (by decide) (by decide)) rfl rfl hl.1 rfl (Nat.le_of_ble_eq_true rfl) dX4_readFun_1 ⟨by (try dsimp only); omega, by (try dsimp only); omega⟩ (by omega) (by omega)
  | inl p8 =>
    have hle8 := (kc_X4_part l D cA E sz ad _ hj oq sgq sgv hE n σ0 b0  p8 e_q8).1
    have hM10009 : p.2.1 ≤ p8.2.2.1 ∧ p.2.2 ≤ p8.2.2.2 := hM9
    have h := cd_inl h
    refine hp_callVv (As := []) (rest := []) cx hw ((kc_X4_part l D cA E _ ad _ hj oq sgq sgv hE n σ0 b0  p8 e_q8).2) (cwV 0 cx.2.2.2.2.2.1 (cd_giV cm_764 cm_765 cm_766 cm_663 cm_767) rfl rfl rfl hdc_X4_part ⟨by (try dsimp only); omega, by (try dsimp only); omega⟩) (cd_atO hj (by decide) (by decide)) rfl rfl hl.1 rfl (Nat.le_of_ble_eq_true rfl) dX4_readFun_1 ⟨by (try dsimp only); omega, by (try dsimp only); omega⟩ (fun u H locs hp hw => ?_)
    obtain ⟨ca, hj, rfl⟩ := hp
    refine W.widen (k := b0.1 - p8.2.2.1) (n := b0.2 - p8.2.2.2) (by omega) (by omega) ?_
    refine lv_aload_n cx.1 cx.2.1 dX4_readFun_4 rfl (lv_at hl 0 rfl) ?_
    refine cd_gI (o := 4) (k := 6) (f := 134) hj cx hw hic4 rfl ⟨by decide, rfl, by decide, rfl⟩ rfl (by decide) (List.mem_cons_of_mem _ cm_728) dX4_readFun_5 ?_
    refine lv_istore_n (lv' := [(2, .int (cI p8.2.1 134 0)), (0, .ref (ad 4 0)), (1, .int a1)]) cx.1 cx.2.1 dX4_readFun_8 rfl hl (by decide) rfl (fun ls hl => ?_)
    refine lv_aload_n cx.1 cx.2.1 dX4_readFun_9 rfl (lv_at hl 1 rfl) ?_
    refine lv_iconst (v := 1) cx.1 cx.2.1 dX4_readFun_10 (by decide) ?_
    obtain ⟨q10, e_q10, h⟩ := md_ob h
    obtain ⟨hm11, hn11, h⟩ := cd_cks h
    have hM11 : p.2.1 ≤ (Sum.elim (fun (p : Nat × cd_S × cd_B) => p.2.2) (fun (t : cd_S × cd_B) => t.2) q10).1 ∧ p.2.2 ≤ (Sum.elim (fun (p : Nat × cd_S × cd_B) => p.2.2) (fun (t : cd_S × cd_B) => t.2) q10).2 := ⟨hm11, hn11⟩
    cases q10 with
    | inr t10 =>
      obtain rfl : t10 = p := Sum.inr.inj (Option.some.inj h)
      have hlx10 := (kx_X4_openUnit l D cA E sz ad _ hj oq sgq sgv hE hX n p8.2.1 (p8.2.2) (1 : Int32) t10 e_q10).1
      exact hp_callQv (As := [.int 1]) (rest := []) cx hw hno ((kx_X4_openUnit l D cA E _ ad _ hj oq sgq sgv hE hX n p8.2.1 (p8.2.2) (1 : Int32) t10 e_q10).2) (cwV 1 cx.2.2.2.2.2.1 (cd_giV cm_807 cm_808 cm_809 cm_663 cm_810) rfl rfl rfl hdc_X4_openUnit ⟨by (try dsimp only); omega, by (try dsimp only); omega⟩) (cd_atO hj (by decide) (by decide)) rfl rfl hl.1 rfl (Nat.le_of_ble_eq_true rfl) dX4_readFun_11 ⟨by (try dsimp only); omega, by (try dsimp only); omega⟩ (by omega) (by omega)
    | inl p10 =>
      have hle10 := (kc_X4_openUnit l D cA E sz ad _ hj oq sgq sgv hE n p8.2.1 (p8.2.2) (1 : Int32) p10 e_q10).1
      have hM10011 : p.2.1 ≤ p10.2.2.1 ∧ p.2.2 ≤ p10.2.2.2 := hM11
      have h := cd_inl h
      refine hp_callVr (As := [.int 1]) (rest := []) cx hw ((kc_X4_openUnit l D cA E _ ad _ hj oq sgq sgv hE n p8.2.1 (p8.2.2) (1 : Int32) p10 e_q10).2) (cwV 1 cx.2.2.2.2.2.1 (cd_giV cm_807 cm_808 cm_809 cm_663 cm_810) rfl rfl rfl hdc_X4_openUnit ⟨by (try dsimp only); omega, by (try dsimp only); omega⟩) (cd_atO hj (by decide) (by decide)) rfl rfl hl.1 rfl (Nat.le_of_ble_eq_true rfl) dX4_readFun_11 ⟨by (try dsimp only); omega, by (try dsimp only); omega⟩ (fun r u H locs hp hw => ?_)
      obtain ⟨⟨hb_p10, rfl⟩, ca, hj, rfl⟩ := hp
      refine W.widen (k := b0.1 - p10.2.2.1) (n := b0.2 - p10.2.2.2) (by omega) (by omega) ?_
      refine lv_astore_n (lv' := [(3, .ref (ad 9 p10.1)), (2, .int (cI p8.2.1 134 0)), (0, .ref (ad 4 0)), (1, .int a1)]) cx.1 cx.2.1 dX4_readFun_14 rfl hl (by decide) rfl (fun ls hl => ?_)
      refine lv_aload_n cx.1 cx.2.1 dX4_readFun_15 rfl (lv_at hl 2 rfl) ?_
      refine lv_aload_n cx.1 cx.2.1 dX4_readFun_16 rfl (lv_at hl 0 rfl) ?_
      obtain ⟨σ12, e_σ12, h⟩ := md_ob h
      refine cd_pP (u := p10.1) (o2 := 9) (o := 4) (k := 8) (f := 136) hj cx hw hic4 rfl ⟨by decide, rfl, by decide, rfl⟩ tyX4_ok nmX4 rfl (by decide) rfl (List.mem_cons_of_mem _ cm_749) rfl rfl e_σ12 dX4_readFun_17 (fun H locs hw => ?_)
      refine lv_aload_n cx.1 cx.2.1 dX4_readFun_20 rfl (lv_at hl 2 rfl) ?_
      refine cd_gO (o2 := 10) (e2 := 0) (o := 4) (k := 0) (f := 128) hj cx hw hic4 rfl ⟨by decide, rfl, by decide, rfl⟩ rfl (by decide) ⟨rfl, rfl⟩ (List.mem_cons_of_mem _ cm_658) dX4_readFun_21 ?_
      obtain ⟨p13, e_p13, h⟩ := md_ob h
      refine hp_callVv (As := []) (rest := []) cx hw (kc_X10_advance l D cA E _ ad _ hj oq sgq sgv hE n σ12  p13 e_p13) (cwV 0 cx.2.2.2.2.2.1 (cd_giV cm_670 cm_671 cm_672 cm_301 cm_673) rfl rfl rfl hdc_X10_advance ⟨by (try dsimp only); omega, by (try dsimp only); omega⟩) (cd_atO hj (by decide) (by decide)) rfl rfl hl.1 rfl (Nat.le_of_ble_eq_true rfl) dX4_readFun_24 ⟨by (try dsimp only); omega, by (try dsimp only); omega⟩ (fun u H locs hp hw => ?_)
      obtain ⟨ca, hj, rfl⟩ := hp
      refine lv_aload_n cx.1 cx.2.1 dX4_readFun_27 rfl (lv_at hl 2 rfl) ?_
      refine lv_bipush (v := 40) cx.1 cx.2.1 dX4_readFun_28 (by decide) ?_
      obtain ⟨q14, e_q14, h⟩ := md_ob h
      obtain ⟨hm15, hn15, h⟩ := cd_cks h
      have hM15 : p.2.1 ≤ (Sum.elim (fun (p : Int32 × cd_S × cd_B) => p.2.2) (fun (t : cd_S × cd_B) => t.2) q14).1 ∧ p.2.2 ≤ (Sum.elim (fun (p : Int32 × cd_S × cd_B) => p.2.2) (fun (t : cd_S × cd_B) => t.2) q14).2 := ⟨hm15, hn15⟩
      cases q14 with
      | inr t14 =>
        obtain rfl : t14 = p := Sum.inr.inj (Option.some.inj h)
        have hlx14 := (kx_X4_pass l D cA E sz ad _ hj oq sgq sgv hE hX n p13.2 (p10.2.2) (40 : Int32) t14 e_q14).1
        exact hp_callQv (As := [.int 40]) (rest := []) cx hw hno ((kx_X4_pass l D cA E _ ad _ hj oq sgq sgv hE hX n p13.2 (p10.2.2) (40 : Int32) t14 e_q14).2) (cwV 1 cx.2.2.2.2.2.1 (cd_giV cm_714 cm_715 cm_716 cm_663 cm_717) rfl rfl rfl hdc_X4_pass ⟨by (try dsimp only); omega, by (try dsimp only); omega⟩) (cd_atO hj (by decide) (by decide)) rfl rfl hl.1 rfl (Nat.le_of_ble_eq_true rfl) dX4_readFun_30 ⟨by (try dsimp only); omega, by (try dsimp only); omega⟩ (by omega) (by omega)
      | inl p14 =>
        have hle14 := (kc_X4_pass l D cA E sz ad _ hj oq sgq sgv hE n p13.2 (p10.2.2) (40 : Int32) p14 e_q14).1
        have hM10015 : p.2.1 ≤ p14.2.2.1 ∧ p.2.2 ≤ p14.2.2.2 := hM15
        have h := cd_inl h
        refine hp_callVv (As := [.int 40]) (rest := []) cx hw ((kc_X4_pass l D cA E _ ad _ hj oq sgq sgv hE n p13.2 (p10.2.2) (40 : Int32) p14 e_q14).2) (cwV 1 cx.2.2.2.2.2.1 (cd_giV cm_714 cm_715 cm_716 cm_663 cm_717) rfl rfl rfl hdc_X4_pass ⟨by (try dsimp only); omega, by (try dsimp only); omega⟩) (cd_atO hj (by decide) (by decide)) rfl rfl hl.1 rfl (Nat.le_of_ble_eq_true rfl) dX4_readFun_30 ⟨by (try dsimp only); omega, by (try dsimp only); omega⟩ (fun u H locs hp hw => ?_)
        obtain ⟨ca, hj, rfl⟩ := hp
        refine W.widen (k := b0.1 - p14.2.2.1) (n := b0.2 - p14.2.2.2) (by omega) (by omega) ?_
        refine lv_aload_n cx.1 cx.2.1 dX4_readFun_33 rfl (lv_at hl 2 rfl) ?_
        obtain ⟨q16, e_q16, h⟩ := md_ob h
        obtain ⟨hm17, hn17, h⟩ := cd_cks h
        have hM17 : p.2.1 ≤ (Sum.elim (fun (p : Int32 × cd_S × cd_B) => p.2.2) (fun (t : cd_S × cd_B) => t.2) q16).1 ∧ p.2.2 ≤ (Sum.elim (fun (p : Int32 × cd_S × cd_B) => p.2.2) (fun (t : cd_S × cd_B) => t.2) q16).2 := ⟨hm17, hn17⟩
        cases q16 with
        | inr t16 =>
          obtain rfl : t16 = p := Sum.inr.inj (Option.some.inj h)
          have hlx16 := (kx_X4_readParameters l D cA E sz ad _ hj oq sgq sgv hE hX n p14.2.1 (p14.2.2)  t16 e_q16).1
          exact hp_callQv (As := []) (rest := []) cx hw hno ((kx_X4_readParameters l D cA E _ ad _ hj oq sgq sgv hE hX n p14.2.1 (p14.2.2)  t16 e_q16).2) (cwV 0 cx.2.2.2.2.2.1 (cd_giV cm_811 cm_812 cm_813 cm_663 cm_814) rfl rfl rfl hdc_X4_readParameters ⟨by (try dsimp only); omega, by (try dsimp only); omega⟩) (cd_atO hj (by decide) (by decide)) rfl rfl hl.1 rfl (Nat.le_of_ble_eq_true rfl) dX4_readFun_34 ⟨by (try dsimp only); omega, by (try dsimp only); omega⟩ (by omega) (by omega)
        | inl p16 =>
          have hle16 := (kc_X4_readParameters l D cA E sz ad _ hj oq sgq sgv hE n p14.2.1 (p14.2.2)  p16 e_q16).1
          have hM10017 : p.2.1 ≤ p16.2.2.1 ∧ p.2.2 ≤ p16.2.2.2 := hM17
          have h := cd_inl h
          refine hp_callVv (As := []) (rest := []) cx hw ((kc_X4_readParameters l D cA E _ ad _ hj oq sgq sgv hE n p14.2.1 (p14.2.2)  p16 e_q16).2) (cwV 0 cx.2.2.2.2.2.1 (cd_giV cm_811 cm_812 cm_813 cm_663 cm_814) rfl rfl rfl hdc_X4_readParameters ⟨by (try dsimp only); omega, by (try dsimp only); omega⟩) (cd_atO hj (by decide) (by decide)) rfl rfl hl.1 rfl (Nat.le_of_ble_eq_true rfl) dX4_readFun_34 ⟨by (try dsimp only); omega, by (try dsimp only); omega⟩ (fun u H locs hp hw => ?_)
          obtain ⟨ca, hj, rfl⟩ := hp
          refine W.widen (k := b0.1 - p16.2.2.1) (n := b0.2 - p16.2.2.2) (by omega) (by omega) ?_
          refine lv_aload_n cx.1 cx.2.1 dX4_readFun_37 rfl (lv_at hl 2 rfl) ?_
          refine lv_bipush (v := 41) cx.1 cx.2.1 dX4_readFun_38 (by decide) ?_
          obtain ⟨q18, e_q18, h⟩ := md_ob h
          obtain ⟨hm19, hn19, h⟩ := cd_cks h
          have hM19 : p.2.1 ≤ (Sum.elim (fun (p : Int32 × cd_S × cd_B) => p.2.2) (fun (t : cd_S × cd_B) => t.2) q18).1 ∧ p.2.2 ≤ (Sum.elim (fun (p : Int32 × cd_S × cd_B) => p.2.2) (fun (t : cd_S × cd_B) => t.2) q18).2 := ⟨hm19, hn19⟩
          cases q18 with
          | inr t18 =>
            obtain rfl : t18 = p := Sum.inr.inj (Option.some.inj h)
            have hlx18 := (kx_X4_pass l D cA E sz ad _ hj oq sgq sgv hE hX n p16.2.1 (p16.2.2) (41 : Int32) t18 e_q18).1
            exact hp_callQv (As := [.int 41]) (rest := []) cx hw hno ((kx_X4_pass l D cA E _ ad _ hj oq sgq sgv hE hX n p16.2.1 (p16.2.2) (41 : Int32) t18 e_q18).2) (cwV 1 cx.2.2.2.2.2.1 (cd_giV cm_714 cm_715 cm_716 cm_663 cm_717) rfl rfl rfl hdc_X4_pass ⟨by (try dsimp only); omega, by (try dsimp only); omega⟩) (cd_atO hj (by decide) (by decide)) rfl rfl hl.1 rfl (Nat.le_of_ble_eq_true rfl) dX4_readFun_40 ⟨by (try dsimp only); omega, by (try dsimp only); omega⟩ (by omega) (by omega)
          | inl p18 =>
            have hle18 := (kc_X4_pass l D cA E sz ad _ hj oq sgq sgv hE n p16.2.1 (p16.2.2) (41 : Int32) p18 e_q18).1
            have hM10019 : p.2.1 ≤ p18.2.2.1 ∧ p.2.2 ≤ p18.2.2.2 := hM19
            have h := cd_inl h
            refine hp_callVv (As := [.int 41]) (rest := []) cx hw ((kc_X4_pass l D cA E _ ad _ hj oq sgq sgv hE n p16.2.1 (p16.2.2) (41 : Int32) p18 e_q18).2) (cwV 1 cx.2.2.2.2.2.1 (cd_giV cm_714 cm_715 cm_716 cm_663 cm_717) rfl rfl rfl hdc_X4_pass ⟨by (try dsimp only); omega, by (try dsimp only); omega⟩) (cd_atO hj (by decide) (by decide)) rfl rfl hl.1 rfl (Nat.le_of_ble_eq_true rfl) dX4_readFun_40 ⟨by (try dsimp only); omega, by (try dsimp only); omega⟩ (fun u H locs hp hw => ?_)
            obtain ⟨ca, hj, rfl⟩ := hp
            refine W.widen (k := b0.1 - p18.2.2.1) (n := b0.2 - p18.2.2.2) (by omega) (by omega) ?_
            refine lv_aload_n cx.1 cx.2.1 dX4_readFun_43 rfl (lv_at hl 2 rfl) ?_
            refine lv_aload_n cx.1 cx.2.1 dX4_readFun_44 rfl (lv_at hl 2 rfl) ?_
            refine cd_gO (o2 := 10) (e2 := 0) (o := 4) (k := 0) (f := 128) hj cx hw hic4 rfl ⟨by decide, rfl, by decide, rfl⟩ rfl (by decide) ⟨rfl, rfl⟩ (List.mem_cons_of_mem _ cm_658) dX4_readFun_45 ?_
            refine cd_gI (o := 10) (k := 8) (f := 328) hj cx hw hic10 rfl ⟨by decide, rfl, by decide, rfl⟩ rfl (by decide) (List.mem_cons_of_mem _ cm_665) dX4_readFun_48 ?_
            refine lv_bipush (v := 123) cx.1 cx.2.1 dX4_readFun_51 (by decide) ?_
            refine lv_icmp_ne (tgt := 60) cx.1 cx.2.1 dX4_readFun_53 (by decide) (fun c53 => ?_) (fun c53 => ?_)
            · have h := md_in c53 h
              refine lv_iconst (v := 0) cx.1 cx.2.1 dX4_readFun_60 (by decide) ?_
              exact J61 _ hj p18.2.1 (p18.2.2) a1 ((cI p8.2.1 134 0)) (p10.1) 0 _ _ _ (by omega) (by omega) (by omega) (by omega) (by omega) h hw (lv_sub hl [2, 3, 1, 0] rfl)
            · have h := md_ip c53 h
              refine lv_iconst (v := 1) cx.1 cx.2.1 dX4_readFun_56 (by decide) ?_
              refine lv_goto (tgt := 61) cx.1 cx.2.1 dX4_readFun_57 (by decide) ?_
              exact J61 _ hj p18.2.1 (p18.2.2) a1 ((cI p8.2.1 134 0)) (p10.1) 1 _ _ _ (by omega) (by omega) (by omega) (by omega) (by omega) h hw (lv_sub hl [2, 3, 1, 0] rfl)
set_option maxHeartbeats 4000000 in
set_option maxRecDepth 100000 in
theorem kx_X4_readNew (l : Launch) (D : va_G) (cA : Nat → ClassId) (E : hp_N) (sz : Nat) (ad : Nat → Nat → Nat) (ca0 : Nat → Nat) (hj : cd_inj ad ca0) (oq sgq sgv : Nat) (hE : cd_E E oq sgq sgv) (hX : cd_X l E) (n : Nat) (σ0 : cd_S) (b0 : cd_B) (p : (cd_S × cd_B)) (h : f_X4_readNew n σ0 b0 = some (Sum.inr p)) : (p.2.1 ≤ b0.1 ∧ p.2.2 ≤ b0.2) ∧ vx_Met l yX4_readNew (Cond.code yX4_readNew cX4_readNew 2 none :: v_CLS) ({ frames := 15, cells := b0.1 - p.2.1, slots := b0.2 - p.2.2, locals := 263 }) (hp_Pc D vwCl (hp_Tl cA) E sz (cd_pic cA ad ca0 σ0) [.ref (ad 4 0)]) (hp_Qv D vwCl (hp_Tl cA) sz (cd_pic cA ad ca0 σ0) (fun _ => False)) (hp_XQ D vwCl (hp_Tl cA) "java/lang/IllegalArgumentException" (cd_pic cA ad ca0 σ0) sz (fun u => ∃ ca1, cd_inj ad ca1 ∧ u = cd_pic cA ad ca1 p.1)) (b0.1 - p.2.1) (b0.2 - p.2.2) (hp_A (cd_pic cA ad ca0 σ0) sz) := by
  obtain ⟨hm0, hn0, h⟩ := cd_cks h
  have hM0 : p.2.1 ≤ b0.1 ∧ p.2.2 ≤ b0.2 := ⟨hm0, hn0⟩
  refine ⟨hM0, ?_⟩
  refine hp_ofWx (cc := cX4_readNew) (maxL := 2) (ret := none) (by decide) rfl (Nat.le_of_ble_eq_true rfl) ?_
  intro pp ee ss mm bb mt cd ls cx hsz hw hl hno
  have hl : lv_has ls 2 [(0, .ref (ad 4 0))] := hl
  refine W.widen (k := b0.1 - b0.1) (n := b0.2 - b0.2) (Nat.zero_le _) (Nat.zero_le _) ?_
  have J47 : ∀ (ca : Nat → Nat) (hj : cd_inj ad ca) (σ : cd_S) (b : cd_B) (l1 : Int32) (H : Heap) (locs : List Loc) (ls : Array Slot), b.1 ≤ b0.1 → b.2 ≤ b0.2 → p.2.1 ≤ b.1 → p.2.2 ≤ b.2 → f_X4_readNew_J47 n σ b l1 = some (Sum.inr p) → hp_w D vwCl (hp_Tl cA) E (hp_A (cd_pic cA ad ca0 σ0) sz) ss H locs (cd_pic cA ad ca σ) → lv_has ls 2 [(0, .ref (ad 4 0)), (1, .int l1)] → W pp l ee ({ frames := 15, cells := b0.1 - p.2.1, slots := b0.2 - p.2.2, locals := 263 }) ss mm [.ref (ad 4 0)].toArray bb mt cd H locs (b0.1 - b.1) (b0.2 - b.2) (vx_MQ bb (hp_Qv D vwCl (hp_Tl cA) sz (cd_pic cA ad ca0 σ0) (fun _ => False)) (hp_XQ D vwCl (hp_Tl cA) "java/lang/IllegalArgumentException" (cd_pic cA ad ca0 σ0) sz (fun u => ∃ ca1, cd_inj ad ca1 ∧ u = cd_pic cA ad ca1 p.1)) [.ref (ad 4 0)].toArray ss (b0.1 - p.2.1) (b0.2 - p.2.2) (hp_A (cd_pic cA ad ca0 σ0) sz)) (F0 mm 47 ls []) := by
    intro ca hj σ b l1 H locs ls hb1 hb2 hf1 hf2 h hw hl
    refine lv_aload_n cx.1 cx.2.1 dX4_readNew_47 rfl (lv_at hl 0 rfl) ?_
    obtain ⟨u1, e_u1, h⟩ := md_ob h
    have hb_u1 : u1 < 60 := (cd_dps e_u1).2
    refine cd_gP (o2 := 9) (u := u1) (o := 4) (k := 8) (f := 136) hj cx hw hic4 rfl ⟨by decide, rfl, by decide, rfl⟩ rfl (by decide) rfl e_u1 (List.mem_cons_of_mem _ cm_749) dX4_readNew_48 ?_
    refine lv_iconst (v := 4) cx.1 cx.2.1 dX4_readNew_51 (by decide) ?_
    refine lv_iload_n cx.1 cx.2.1 dX4_readNew_52 rfl (lv_at hl 1 rfl) ?_
    refine lv_iconst (v := 0) cx.1 cx.2.1 dX4_readNew_53 (by decide) ?_
    obtain ⟨p2, e_p2, h⟩ := md_ob h
    obtain ⟨hm3, hn3, h⟩ := cd_cks h
    have hM3 : p.2.1 ≤ p2.2.2.1 ∧ p.2.2 ≤ p2.2.2.2 := ⟨hm3, hn3⟩
    have hle2 := (kc_X9_emit l D cA E sz ad _ hj oq sgq sgv hE n σ b u1 (4 : Int32) l1 (0 : Int32) (show _ < 60 by omega) p2 e_p2).1
    refine hp_callVv (As := [.int 4, .int l1, .int 0]) (rest := []) cx hw ((kc_X9_emit l D cA E _ ad _ hj oq sgq sgv hE n σ b u1 (4 : Int32) l1 (0 : Int32) (show _ < 60 by omega) p2 e_p2).2) (cwV 3 cx.2.2.2.2.2.1 (cd_giV cm_781 cm_782 cm_783 cm_114 cm_784) rfl rfl rfl hdc_X9_emit ⟨Nat.le_of_ble_eq_true rfl, Nat.le_of_ble_eq_true rfl⟩) (cd_atO hj (by decide) (show _ < 60 by omega)) rfl rfl hl.1 rfl (Nat.le_of_ble_eq_true rfl) dX4_readNew_54 ⟨by (try dsimp only); omega, by (try dsimp only); omega⟩ (fun u H locs hp hw => ?_)
    obtain ⟨ca, hj, rfl⟩ := hp
    refine W.widen (k := b0.1 - p2.2.2.1) (n := b0.2 - p2.2.2.2) (by omega) (by omega) ?_
    refine lv_aload_n cx.1 cx.2.1 dX4_readNew_57 rfl (lv_at hl 0 rfl) ?_
    refine cd_gO (o2 := 10) (e2 := 0) (o := 4) (k := 0) (f := 128) hj cx hw hic4 rfl ⟨by decide, rfl, by decide, rfl⟩ rfl (by decide) ⟨rfl, rfl⟩ (List.mem_cons_of_mem _ cm_658) dX4_readNew_58 ?_
    obtain ⟨p4, e_p4, h⟩ := md_ob h
    refine hp_callVv (As := []) (rest := []) cx hw (kc_X10_advance l D cA E _ ad _ hj oq sgq sgv hE n p2.2.1  p4 e_p4) (cwV 0 cx.2.2.2.2.2.1 (cd_giV cm_670 cm_671 cm_672 cm_301 cm_673) rfl rfl rfl hdc_X10_advance ⟨Nat.le_of_ble_eq_true rfl, Nat.le_of_ble_eq_true rfl⟩) (cd_atO hj (by decide) (by decide)) rfl rfl hl.1 rfl (Nat.le_of_ble_eq_true rfl) dX4_readNew_61 ⟨by (try dsimp only); omega, by (try dsimp only); omega⟩ (fun u H locs hp hw => ?_)
    obtain ⟨ca, hj, rfl⟩ := hp
    exact nomatch Option.some.inj h
  refine lv_aload_n cx.1 cx.2.1 dX4_readNew_0 rfl (lv_at hl 0 rfl) ?_
  obtain ⟨q5, e_q5, h⟩ := md_ob h
  obtain ⟨hm6, hn6, h⟩ := cd_cks h
  have hM6 : p.2.1 ≤ (Sum.elim (fun (p : Int32 × cd_S × cd_B) => p.2.2) (fun (t : cd_S × cd_B) => t.2) q5).1 ∧ p.2.2 ≤ (Sum.elim (fun (p : Int32 × cd_S × cd_B) => p.2.2) (fun (t : cd_S × cd_B) => t.2) q5).2 := ⟨hm6, hn6⟩
  cases q5 with
  | inr t5 =>
    obtain rfl : t5 = p := Sum.inr.inj (Option.some.inj h)
    have hlx5 := (kx_X4_part l D cA E sz ad _ hj oq sgq sgv hE hX n σ0 b0  t5 e_q5).1
    exact hp_callQv (As := []) (rest := []) cx hw hno ((kx_X4_part l D cA E _ ad _ hj oq sgq sgv hE hX n σ0 b0  t5 e_q5).2) (cwV 0 cx.2.2.2.2.2.1 (cd_giV cm_764 cm_765 cm_766 cm_663 cm_767) rfl rfl rfl hdc_X4_part ⟨Nat.le_of_ble_eq_true rfl, Nat.le_of_ble_eq_true rfl⟩) (cd_atO hj (by decide) (by decide)) rfl rfl hl.1 rfl (Nat.le_of_ble_eq_true rfl) dX4_readNew_1 ⟨by (try dsimp only); omega, by (try dsimp only); omega⟩ (by omega) (by omega)
  | inl p5 =>
    have hle5 := (kc_X4_part l D cA E sz ad _ hj oq sgq sgv hE n σ0 b0  p5 e_q5).1
    have hM10006 : p.2.1 ≤ p5.2.2.1 ∧ p.2.2 ≤ p5.2.2.2 := hM6
    have h := cd_inl h
    refine hp_callVv (As := []) (rest := []) cx hw ((kc_X4_part l D cA E _ ad _ hj oq sgq sgv hE n σ0 b0  p5 e_q5).2) (cwV 0 cx.2.2.2.2.2.1 (cd_giV cm_764 cm_765 cm_766 cm_663 cm_767) rfl rfl rfl hdc_X4_part ⟨Nat.le_of_ble_eq_true rfl, Nat.le_of_ble_eq_true rfl⟩) (cd_atO hj (by decide) (by decide)) rfl rfl hl.1 rfl (Nat.le_of_ble_eq_true rfl) dX4_readNew_1 ⟨by (try dsimp only); omega, by (try dsimp only); omega⟩ (fun u H locs hp hw => ?_)
    obtain ⟨ca, hj, rfl⟩ := hp
    refine W.widen (k := b0.1 - p5.2.2.1) (n := b0.2 - p5.2.2.2) (by omega) (by omega) ?_
    refine lv_aload_n cx.1 cx.2.1 dX4_readNew_4 rfl (lv_at hl 0 rfl) ?_
    refine cd_gO (o2 := 10) (e2 := 0) (o := 4) (k := 0) (f := 128) hj cx hw hic4 rfl ⟨by decide, rfl, by decide, rfl⟩ rfl (by decide) ⟨rfl, rfl⟩ (List.mem_cons_of_mem _ cm_658) dX4_readNew_5 ?_
    obtain ⟨p7, e_p7, h⟩ := md_ob h
    refine hp_callVv (As := []) (rest := []) cx hw (kc_X10_advance l D cA E _ ad _ hj oq sgq sgv hE n p5.2.1  p7 e_p7) (cwV 0 cx.2.2.2.2.2.1 (cd_giV cm_670 cm_671 cm_672 cm_301 cm_673) rfl rfl rfl hdc_X10_advance ⟨Nat.le_of_ble_eq_true rfl, Nat.le_of_ble_eq_true rfl⟩) (cd_atO hj (by decide) (by decide)) rfl rfl hl.1 rfl (Nat.le_of_ble_eq_true rfl) dX4_readNew_8 ⟨by (try dsimp only); omega, by (try dsimp only); omega⟩ (fun u H locs hp hw => ?_)
    obtain ⟨ca, hj, rfl⟩ := hp
    refine lv_aload_n cx.1 cx.2.1 dX4_readNew_11 rfl (lv_at hl 0 rfl) ?_
    obtain ⟨q8, e_q8, h⟩ := md_ob h
    obtain ⟨hm9, hn9, h⟩ := cd_cks h
    have hM9 : p.2.1 ≤ (Sum.elim (fun (p : Int32 × cd_S × cd_B) => p.2.2) (fun (t : cd_S × cd_B) => t.2) q8).1 ∧ p.2.2 ≤ (Sum.elim (fun (p : Int32 × cd_S × cd_B) => p.2.2) (fun (t : cd_S × cd_B) => t.2) q8).2 := ⟨hm9, hn9⟩
    cases q8 with
    | inr t8 =>
      obtain rfl : t8 = p := Sum.inr.inj (Option.some.inj h)
      have hlx8 := (kx_X4_needName l D cA E sz ad _ hj oq sgq sgv hE hX n p7.2 (p5.2.2)  t8 e_q8).1
      exact hp_callQv (As := []) (rest := []) cx hw hno ((kx_X4_needName l D cA E _ ad _ hj oq sgq sgv hE hX n p7.2 (p5.2.2)  t8 e_q8).2) (cwV 0 cx.2.2.2.2.2.1 (cd_giV cm_687 cm_688 cm_689 cm_663 cm_690) rfl rfl rfl hdc_X4_needName ⟨Nat.le_of_ble_eq_true rfl, Nat.le_of_ble_eq_true rfl⟩) (cd_atO hj (by decide) (by decide)) rfl rfl hl.1 rfl (Nat.le_of_ble_eq_true rfl) dX4_readNew_12 ⟨by (try dsimp only); omega, by (try dsimp only); omega⟩ (by omega) (by omega)
    | inl p8 =>
      have hle8 := (kc_X4_needName l D cA E sz ad _ hj oq sgq sgv hE n p7.2 (p5.2.2)  p8 e_q8).1
      have hM10009 : p.2.1 ≤ p8.2.2.1 ∧ p.2.2 ≤ p8.2.2.2 := hM9
      have h := cd_inl h
      refine hp_callVv (As := []) (rest := []) cx hw ((kc_X4_needName l D cA E _ ad _ hj oq sgq sgv hE n p7.2 (p5.2.2)  p8 e_q8).2) (cwV 0 cx.2.2.2.2.2.1 (cd_giV cm_687 cm_688 cm_689 cm_663 cm_690) rfl rfl rfl hdc_X4_needName ⟨Nat.le_of_ble_eq_true rfl, Nat.le_of_ble_eq_true rfl⟩) (cd_atO hj (by decide) (by decide)) rfl rfl hl.1 rfl (Nat.le_of_ble_eq_true rfl) dX4_readNew_12 ⟨by (try dsimp only); omega, by (try dsimp only); omega⟩ (fun u H locs hp hw => ?_)
      obtain ⟨ca, hj, rfl⟩ := hp
      refine W.widen (k := b0.1 - p8.2.2.1) (n := b0.2 - p8.2.2.2) (by omega) (by omega) ?_
      refine lv_aload_n cx.1 cx.2.1 dX4_readNew_15 rfl (lv_at hl 0 rfl) ?_
      refine cd_gO (o2 := 2) (e2 := 0) (o := 4) (k := 1) (f := 129) hj cx hw hic4 rfl ⟨by decide, rfl, by decide, rfl⟩ rfl (by decide) ⟨rfl, rfl⟩ (List.mem_cons_of_mem _ cm_722) dX4_readNew_16 ?_
      refine lv_aload_n cx.1 cx.2.1 dX4_readNew_19 rfl (lv_at hl 0 rfl) ?_
      refine cd_gO (o2 := 10) (e2 := 0) (o := 4) (k := 0) (f := 128) hj cx hw hic4 rfl ⟨by decide, rfl, by decide, rfl⟩ rfl (by decide) ⟨rfl, rfl⟩ (List.mem_cons_of_mem _ cm_658) dX4_readNew_20 ?_
      refine cd_gJ (o := 10) (k := 10) (f := 330) hj cx hw hic10 rfl ⟨by decide, rfl, by decide, rfl⟩ rfl (by decide) (List.mem_cons_of_mem _ cm_695) dX4_readNew_23 ?_
      obtain ⟨p10, e_p10, h⟩ := md_ob h
      refine hp_callVi (As := [.long (cJ p8.2.1 330 0)]) (rest := []) cx hw (kc_X2_findModule l D cA E _ ad _ hj oq sgq sgv hE n p8.2.1 ((cJ p8.2.1 330 0)) p10 e_p10) (cwV 1 cx.2.2.2.2.2.1 (cd_giV cm_823 cm_824 cm_825 cm_167 cm_826) rfl rfl rfl hdc_X2_findModule ⟨Nat.le_of_ble_eq_true rfl, Nat.le_of_ble_eq_true rfl⟩) (cd_atO hj (by decide) (by decide)) rfl rfl hl.1 rfl (Nat.le_of_ble_eq_true rfl) dX4_readNew_26 ⟨by (try dsimp only); omega, by (try dsimp only); omega⟩ (fun r u H locs hp hw => ?_)
      obtain ⟨rfl, ca, hj, rfl⟩ := hp
      refine lv_istore_n (lv' := [(1, .int p10.1), (0, .ref (ad 4 0))]) cx.1 cx.2.1 dX4_readNew_29 rfl hl (by decide) rfl (fun ls hl => ?_)
      refine lv_iload_n cx.1 cx.2.1 dX4_readNew_30 rfl (lv_at hl 0 rfl) ?_
      refine lv_iconst (v := (-1)) cx.1 cx.2.1 dX4_readNew_31 (by decide) ?_
      refine lv_icmp_ne (tgt := 47) cx.1 cx.2.1 dX4_readNew_32 (by decide) (fun c32 => ?_) (fun c32 => ?_)
      · have h := md_in c32 h
        exact J47 _ hj p10.2 (p8.2.2) (p10.1) _ _ _ (by omega) (by omega) (by omega) (by omega) h hw (lv_sub hl [1, 0] rfl)
      · have h := md_ip c32 h
        refine lv_aload_n cx.1 cx.2.1 dX4_readNew_35 rfl (lv_at hl 1 rfl) ?_
        refine lv_iconst (v := 3) cx.1 cx.2.1 dX4_readNew_36 (by decide) ?_
        refine lv_aload_n cx.1 cx.2.1 dX4_readNew_37 rfl (lv_at hl 1 rfl) ?_
        refine cd_gO (o2 := 10) (e2 := 0) (o := 4) (k := 0) (f := 128) hj cx hw hic4 rfl ⟨by decide, rfl, by decide, rfl⟩ rfl (by decide) ⟨rfl, rfl⟩ (List.mem_cons_of_mem _ cm_658) dX4_readNew_38 ?_
        refine cd_gI (o := 10) (k := 9) (f := 329) hj cx hw hic10 rfl ⟨by decide, rfl, by decide, rfl⟩ rfl (by decide) (List.mem_cons_of_mem _ cm_659) dX4_readNew_41 ?_
        obtain ⟨q11, e_q11, h⟩ := md_ob h
        obtain ⟨hm12, hn12, h⟩ := cd_cks h
        have hM12 : p.2.1 ≤ (Sum.elim (fun (p : Int32 × cd_S × cd_B) => p.2.2) (fun (t : cd_S × cd_B) => t.2) q11).1 ∧ p.2.2 ≤ (Sum.elim (fun (p : Int32 × cd_S × cd_B) => p.2.2) (fun (t : cd_S × cd_B) => t.2) q11).2 := ⟨hm12, hn12⟩
        cases q11 with
        | inr t11 =>
          obtain rfl : t11 = p := Sum.inr.inj (Option.some.inj h)
          have hlx11 := (kx_X4_refuse l D cA E sz ad _ hj oq sgq sgv hE hX n p10.2 (p8.2.2) (3 : Int32) ((cI p10.2 329 0)) t11 e_q11).1
          exact hp_callQv (As := [.int 3, .int (cI p10.2 329 0)]) (rest := []) cx hw hno ((kx_X4_refuse l D cA E _ ad _ hj oq sgq sgv hE hX n p10.2 (p8.2.2) (3 : Int32) ((cI p10.2 329 0)) t11 e_q11).2) (cwV 2 cx.2.2.2.2.2.1 (cd_giV cm_660 cm_661 cm_662 cm_663 cm_664) rfl rfl rfl hdc_X4_refuse ⟨Nat.le_of_ble_eq_true rfl, Nat.le_of_ble_eq_true rfl⟩) (cd_atO hj (by decide) (by decide)) rfl rfl hl.1 rfl (Nat.le_of_ble_eq_true rfl) dX4_readNew_44 ⟨by (try dsimp only); omega, by (try dsimp only); omega⟩ (by omega) (by omega)
        | inl p11 =>
          have hle11 := (kc_X4_refuse l D cA E sz ad _ hj oq sgq sgv hE n p10.2 (p8.2.2) (3 : Int32) ((cI p10.2 329 0)) p11 e_q11).1
          have hM10012 : p.2.1 ≤ p11.2.2.1 ∧ p.2.2 ≤ p11.2.2.2 := hM12
          have h := cd_inl h
          refine hp_callVv (As := [.int 3, .int (cI p10.2 329 0)]) (rest := []) cx hw ((kc_X4_refuse l D cA E _ ad _ hj oq sgq sgv hE n p10.2 (p8.2.2) (3 : Int32) ((cI p10.2 329 0)) p11 e_q11).2) (cwV 2 cx.2.2.2.2.2.1 (cd_giV cm_660 cm_661 cm_662 cm_663 cm_664) rfl rfl rfl hdc_X4_refuse ⟨Nat.le_of_ble_eq_true rfl, Nat.le_of_ble_eq_true rfl⟩) (cd_atO hj (by decide) (by decide)) rfl rfl hl.1 rfl (Nat.le_of_ble_eq_true rfl) dX4_readNew_44 ⟨by (try dsimp only); omega, by (try dsimp only); omega⟩ (fun u H locs hp hw => ?_)
          obtain ⟨ca, hj, rfl⟩ := hp
          refine W.widen (k := b0.1 - p11.2.2.1) (n := b0.2 - p11.2.2.2) (by omega) (by omega) ?_
          exact J47 _ hj p11.2.1 (p11.2.2) (p10.1) _ _ _ (by omega) (by omega) (by omega) (by omega) h hw (lv_sub hl [1, 0] rfl)
set_option maxHeartbeats 4000000 in
set_option maxRecDepth 100000 in
theorem kx_X4_variableKey (l : Launch) (D : va_G) (cA : Nat → ClassId) (E : hp_N) (sz : Nat) (ad : Nat → Nat → Nat) (ca0 : Nat → Nat) (hj : cd_inj ad ca0) (oq sgq sgv : Nat) (hE : cd_E E oq sgq sgv) (hX : cd_X l E) (n : Nat) (σ0 : cd_S) (b0 : cd_B) (p : (cd_S × cd_B)) (h : f_X4_variableKey n σ0 b0 = some (Sum.inr p)) : (p.2.1 ≤ b0.1 ∧ p.2.2 ≤ b0.2) ∧ vx_Met l yX4_variableKey (Cond.code yX4_variableKey cX4_variableKey 2 (some .int) :: v_CLS) ({ frames := 13, cells := b0.1 - p.2.1, slots := b0.2 - p.2.2, locals := 222 }) (hp_Pc D vwCl (hp_Tl cA) E sz (cd_pic cA ad ca0 σ0) [.ref (ad 4 0)]) (hp_Qv D vwCl (hp_Tl cA) sz (cd_pic cA ad ca0 σ0) (fun _ => False)) (hp_XQ D vwCl (hp_Tl cA) "java/lang/IllegalArgumentException" (cd_pic cA ad ca0 σ0) sz (fun u => ∃ ca1, cd_inj ad ca1 ∧ u = cd_pic cA ad ca1 p.1)) (b0.1 - p.2.1) (b0.2 - p.2.2) (hp_A (cd_pic cA ad ca0 σ0) sz) := by
  obtain ⟨hm0, hn0, h⟩ := cd_cks h
  have hM0 : p.2.1 ≤ b0.1 ∧ p.2.2 ≤ b0.2 := ⟨hm0, hn0⟩
  refine ⟨hM0, ?_⟩
  refine hp_ofWx (cc := cX4_variableKey) (maxL := 2) (ret := (some .int)) (by decide) rfl (Nat.le_of_ble_eq_true rfl) ?_
  intro pp ee ss mm bb mt cd ls cx hsz hw hl hno
  have hl : lv_has ls 2 [(0, .ref (ad 4 0))] := hl
  refine W.widen (k := b0.1 - b0.1) (n := b0.2 - b0.2) (Nat.zero_le _) (Nat.zero_le _) ?_
  have J22 : ∀ (ca : Nat → Nat) (hj : cd_inj ad ca) (σ : cd_S) (b : cd_B) (H : Heap) (locs : List Loc) (ls : Array Slot), b.1 ≤ b0.1 → b.2 ≤ b0.2 → p.2.1 ≤ b.1 → p.2.2 ≤ b.2 → f_X4_variableKey_J22 n σ b = some (Sum.inr p) → hp_w D vwCl (hp_Tl cA) E (hp_A (cd_pic cA ad ca0 σ0) sz) ss H locs (cd_pic cA ad ca σ) → lv_has ls 2 [(0, .ref (ad 4 0))] → W pp l ee ({ frames := 13, cells := b0.1 - p.2.1, slots := b0.2 - p.2.2, locals := 222 }) ss mm [.ref (ad 4 0)].toArray bb mt cd H locs (b0.1 - b.1) (b0.2 - b.2) (vx_MQ bb (hp_Qv D vwCl (hp_Tl cA) sz (cd_pic cA ad ca0 σ0) (fun _ => False)) (hp_XQ D vwCl (hp_Tl cA) "java/lang/IllegalArgumentException" (cd_pic cA ad ca0 σ0) sz (fun u => ∃ ca1, cd_inj ad ca1 ∧ u = cd_pic cA ad ca1 p.1)) [.ref (ad 4 0)].toArray ss (b0.1 - p.2.1) (b0.2 - p.2.2) (hp_A (cd_pic cA ad ca0 σ0) sz)) (F0 mm 22 ls []) := by
    intro ca hj σ b H locs ls hb1 hb2 hf1 hf2 h hw hl
    refine lv_aload_n cx.1 cx.2.1 dX4_variableKey_22 rfl (lv_at hl 0 rfl) ?_
    refine lv_iconst (v := 3) cx.1 cx.2.1 dX4_variableKey_23 (by decide) ?_
    refine lv_aload_n cx.1 cx.2.1 dX4_variableKey_24 rfl (lv_at hl 0 rfl) ?_
    refine cd_gO (o2 := 10) (e2 := 0) (o := 4) (k := 0) (f := 128) hj cx hw hic4 rfl ⟨by decide, rfl, by decide, rfl⟩ rfl (by decide) ⟨rfl, rfl⟩ (List.mem_cons_of_mem _ cm_658) dX4_variableKey_25 ?_
    refine cd_gI (o := 10) (k := 9) (f := 329) hj cx hw hic10 rfl ⟨by decide, rfl, by decide, rfl⟩ rfl (by decide) (List.mem_cons_of_mem _ cm_659) dX4_variableKey_28 ?_
    obtain ⟨q1, e_q1, h⟩ := md_ob h
    obtain ⟨hm2, hn2, h⟩ := cd_cks h
    have hM2 : p.2.1 ≤ (Sum.elim (fun (p : Int32 × cd_S × cd_B) => p.2.2) (fun (t : cd_S × cd_B) => t.2) q1).1 ∧ p.2.2 ≤ (Sum.elim (fun (p : Int32 × cd_S × cd_B) => p.2.2) (fun (t : cd_S × cd_B) => t.2) q1).2 := ⟨hm2, hn2⟩
    cases q1 with
    | inr t1 =>
      obtain rfl : t1 = p := Sum.inr.inj (Option.some.inj h)
      have hlx1 := (kx_X4_refuse l D cA E sz ad _ hj oq sgq sgv hE hX n σ b (3 : Int32) ((cI σ 329 0)) t1 e_q1).1
      exact hp_callQv (As := [.int 3, .int (cI σ 329 0)]) (rest := []) cx hw hno ((kx_X4_refuse l D cA E _ ad _ hj oq sgq sgv hE hX n σ b (3 : Int32) ((cI σ 329 0)) t1 e_q1).2) (cwV 2 cx.2.2.2.2.2.1 (cd_giV cm_660 cm_661 cm_662 cm_663 cm_664) rfl rfl rfl hdc_X4_refuse ⟨Nat.le_of_ble_eq_true rfl, Nat.le_of_ble_eq_true rfl⟩) (cd_atO hj (by decide) (by decide)) rfl rfl hl.1 rfl (Nat.le_of_ble_eq_true rfl) dX4_variableKey_31 ⟨by (try dsimp only); omega, by (try dsimp only); omega⟩ (by omega) (by omega)
    | inl p1 =>
      have hle1 := (kc_X4_refuse l D cA E sz ad _ hj oq sgq sgv hE n σ b (3 : Int32) ((cI σ 329 0)) p1 e_q1).1
      have hM10002 : p.2.1 ≤ p1.2.2.1 ∧ p.2.2 ≤ p1.2.2.2 := hM2
      have h := cd_inl h
      refine hp_callVv (As := [.int 3, .int (cI σ 329 0)]) (rest := []) cx hw ((kc_X4_refuse l D cA E _ ad _ hj oq sgq sgv hE n σ b (3 : Int32) ((cI σ 329 0)) p1 e_q1).2) (cwV 2 cx.2.2.2.2.2.1 (cd_giV cm_660 cm_661 cm_662 cm_663 cm_664) rfl rfl rfl hdc_X4_refuse ⟨Nat.le_of_ble_eq_true rfl, Nat.le_of_ble_eq_true rfl⟩) (cd_atO hj (by decide) (by decide)) rfl rfl hl.1 rfl (Nat.le_of_ble_eq_true rfl) dX4_variableKey_31 ⟨by (try dsimp only); omega, by (try dsimp only); omega⟩ (fun u H locs hp hw => ?_)
      obtain ⟨ca, hj, rfl⟩ := hp
      refine W.widen (k := b0.1 - p1.2.2.1) (n := b0.2 - p1.2.2.2) (by omega) (by omega) ?_
      refine lv_iconst (v := (-1)) cx.1 cx.2.1 dX4_variableKey_34 (by decide) ?_
      exact nomatch Option.some.inj h
  refine lv_aload_n cx.1 cx.2.1 dX4_variableKey_0 rfl (lv_at hl 0 rfl) ?_
  refine lv_aload_n cx.1 cx.2.1 dX4_variableKey_1 rfl (lv_at hl 0 rfl) ?_
  refine cd_gO (o2 := 10) (e2 := 0) (o := 4) (k := 0) (f := 128) hj cx hw hic4 rfl ⟨by decide, rfl, by decide, rfl⟩ rfl (by decide) ⟨rfl, rfl⟩ (List.mem_cons_of_mem _ cm_658) dX4_variableKey_2 ?_
  refine cd_gJ (o := 10) (k := 10) (f := 330) hj cx hw hic10 rfl ⟨by decide, rfl, by decide, rfl⟩ rfl (by decide) (List.mem_cons_of_mem _ cm_695) dX4_variableKey_5 ?_
  obtain ⟨p3, e_p3, h⟩ := md_ob h
  refine hp_callVi (As := [.long (cJ σ0 330 0)]) (rest := []) cx hw (kc_X4_findVariable l D cA E _ ad _ hj oq sgq sgv hE n σ0 ((cJ σ0 330 0)) p3 e_p3) (cwV 1 cx.2.2.2.2.2.1 (cd_giV cm_794 cm_795 cm_796 cm_663 cm_797) rfl rfl rfl hdc_X4_findVariable ⟨Nat.le_of_ble_eq_true rfl, Nat.le_of_ble_eq_true rfl⟩) (cd_atO hj (by decide) (by decide)) rfl rfl hl.1 rfl (Nat.le_of_ble_eq_true rfl) dX4_variableKey_8 ⟨by (try dsimp only); omega, by (try dsimp only); omega⟩ (fun r u H locs hp hw => ?_)
  obtain ⟨rfl, ca, hj, rfl⟩ := hp
  refine lv_istore_n (lv' := [(1, .int p3.1), (0, .ref (ad 4 0))]) cx.1 cx.2.1 dX4_variableKey_11 rfl hl (by decide) rfl (fun ls hl => ?_)
  refine lv_iload_n cx.1 cx.2.1 dX4_variableKey_12 rfl (lv_at hl 0 rfl) ?_
  refine lv_if_lt (tgt := 22) cx.1 cx.2.1 dX4_variableKey_13 (by decide) (fun c13 => ?_) (fun c13 => ?_)
  · have h := md_ip c13 h
    exact J22 _ hj p3.2 b0 _ _ _ (by omega) (by omega) (by omega) (by omega) h hw (lv_sub hl [1] rfl)
  · have h := md_in c13 h
    refine lv_iload_n cx.1 cx.2.1 dX4_variableKey_16 rfl (lv_at hl 0 rfl) ?_
    refine lv_bipush (v := 12) cx.1 cx.2.1 dX4_variableKey_17 (by decide) ?_
    refine lv_icmp_lt (tgt := 36) cx.1 cx.2.1 dX4_variableKey_19 (by decide) (fun c19 => ?_) (fun c19 => ?_)
    · have h := md_ip c19 h
      refine lv_aload_n cx.1 cx.2.1 dX4_variableKey_36 rfl (lv_at hl 1 rfl) ?_
      refine cd_gA (o := 4) (k := 5) (f := 133) hj cx hw hic4 rfl ⟨by decide, rfl, by decide, rfl⟩ rfl (by decide) (List.mem_cons_of_mem _ cm_789) dX4_variableKey_37 ?_
      refine lv_iload_n cx.1 cx.2.1 dX4_variableKey_40 rfl (lv_at hl 0 rfl) ?_
      obtain ⟨v4, e_v4, h⟩ := md_ob h
      refine cd_lI (f := 133) hj cx hw (by decide) (by decide) rfl e_v4 dX4_variableKey_41 ?_
      exact nomatch Option.some.inj h
    · have h := md_in c19 h
      exact J22 _ hj p3.2 b0 _ _ _ (by omega) (by omega) (by omega) (by omega) h hw (lv_sub hl [1] rfl)
set_option maxHeartbeats 4000000 in
set_option maxRecDepth 100000 in
theorem kx_X4_readPlainAtom (l : Launch) (D : va_G) (cA : Nat → ClassId) (E : hp_N) (sz : Nat) (ad : Nat → Nat → Nat) (ca0 : Nat → Nat) (hj : cd_inj ad ca0) (oq sgq sgv : Nat) (hE : cd_E E oq sgq sgv) (hX : cd_X l E) (n : Nat) (σ0 : cd_S) (b0 : cd_B) (p : (cd_S × cd_B)) (h : f_X4_readPlainAtom n σ0 b0 = some (Sum.inr p)) : (p.2.1 ≤ b0.1 ∧ p.2.2 ≤ b0.2) ∧ vx_Met l yX4_readPlainAtom (Cond.code yX4_readPlainAtom cX4_readPlainAtom 1 none :: v_CLS) ({ frames := 15, cells := b0.1 - p.2.1, slots := b0.2 - p.2.2, locals := 263 }) (hp_Pc D vwCl (hp_Tl cA) E sz (cd_pic cA ad ca0 σ0) [.ref (ad 4 0)]) (hp_Qv D vwCl (hp_Tl cA) sz (cd_pic cA ad ca0 σ0) (fun _ => False)) (hp_XQ D vwCl (hp_Tl cA) "java/lang/IllegalArgumentException" (cd_pic cA ad ca0 σ0) sz (fun u => ∃ ca1, cd_inj ad ca1 ∧ u = cd_pic cA ad ca1 p.1)) (b0.1 - p.2.1) (b0.2 - p.2.2) (hp_A (cd_pic cA ad ca0 σ0) sz) := by
  obtain ⟨hm0, hn0, h⟩ := cd_cks h
  have hM0 : p.2.1 ≤ b0.1 ∧ p.2.2 ≤ b0.2 := ⟨hm0, hn0⟩
  refine ⟨hM0, ?_⟩
  refine hp_ofWx (cc := cX4_readPlainAtom) (maxL := 1) (ret := none) (by decide) rfl (Nat.le_of_ble_eq_true rfl) ?_
  intro pp ee ss mm bb mt cd ls cx hsz hw hl hno
  have hl : lv_has ls 1 [(0, .ref (ad 4 0))] := hl
  refine W.widen (k := b0.1 - b0.1) (n := b0.2 - b0.2) (Nat.zero_le _) (Nat.zero_le _) ?_
  have J129 : ∀ (ca : Nat → Nat) (hj : cd_inj ad ca) (σ : cd_S) (b : cd_B) (H : Heap) (locs : List Loc) (ls : Array Slot), b.1 ≤ b0.1 → b.2 ≤ b0.2 → p.2.1 ≤ b.1 → p.2.2 ≤ b.2 → f_X4_readPlainAtom_J129 n σ b = some (Sum.inr p) → hp_w D vwCl (hp_Tl cA) E (hp_A (cd_pic cA ad ca0 σ0) sz) ss H locs (cd_pic cA ad ca σ) → lv_has ls 1 [(0, .ref (ad 4 0))] → W pp l ee ({ frames := 15, cells := b0.1 - p.2.1, slots := b0.2 - p.2.2, locals := 263 }) ss mm [.ref (ad 4 0)].toArray bb mt cd H locs (b0.1 - b.1) (b0.2 - b.2) (vx_MQ bb (hp_Qv D vwCl (hp_Tl cA) sz (cd_pic cA ad ca0 σ0) (fun _ => False)) (hp_XQ D vwCl (hp_Tl cA) "java/lang/IllegalArgumentException" (cd_pic cA ad ca0 σ0) sz (fun u => ∃ ca1, cd_inj ad ca1 ∧ u = cd_pic cA ad ca1 p.1)) [.ref (ad 4 0)].toArray ss (b0.1 - p.2.1) (b0.2 - p.2.2) (hp_A (cd_pic cA ad ca0 σ0) sz)) (F0 mm 129 ls []) := by
    intro ca hj σ b H locs ls hb1 hb2 hf1 hf2 h hw hl
    refine lv_aload_n cx.1 cx.2.1 dX4_readPlainAtom_129 rfl (lv_at hl 0 rfl) ?_
    refine cd_gO (o2 := 10) (e2 := 0) (o := 4) (k := 0) (f := 128) hj cx hw hic4 rfl ⟨by decide, rfl, by decide, rfl⟩ rfl (by decide) ⟨rfl, rfl⟩ (List.mem_cons_of_mem _ cm_658) dX4_readPlainAtom_130 ?_
    obtain ⟨p1, e_p1, h⟩ := md_ob h
    refine hp_callVv (As := []) (rest := []) cx hw (kc_X10_advance l D cA E _ ad _ hj oq sgq sgv hE n σ  p1 e_p1) (cwV 0 cx.2.2.2.2.2.1 (cd_giV cm_670 cm_671 cm_672 cm_301 cm_673) rfl rfl rfl hdc_X10_advance ⟨Nat.le_of_ble_eq_true rfl, Nat.le_of_ble_eq_true rfl⟩) (cd_atO hj (by decide) (by decide)) rfl rfl hl.1 rfl (Nat.le_of_ble_eq_true rfl) dX4_readPlainAtom_133 ⟨by (try dsimp only); omega, by (try dsimp only); omega⟩ (fun u H locs hp hw => ?_)
    obtain ⟨ca, hj, rfl⟩ := hp
    exact nomatch Option.some.inj h
  refine lv_aload_n cx.1 cx.2.1 dX4_readPlainAtom_0 rfl (lv_at hl 0 rfl) ?_
  obtain ⟨q2, e_q2, h⟩ := md_ob h
  obtain ⟨hm3, hn3, h⟩ := cd_cks h
  have hM3 : p.2.1 ≤ (Sum.elim (fun (p : Int32 × cd_S × cd_B) => p.2.2) (fun (t : cd_S × cd_B) => t.2) q2).1 ∧ p.2.2 ≤ (Sum.elim (fun (p : Int32 × cd_S × cd_B) => p.2.2) (fun (t : cd_S × cd_B) => t.2) q2).2 := ⟨hm3, hn3⟩
  cases q2 with
  | inr t2 =>
    obtain rfl : t2 = p := Sum.inr.inj (Option.some.inj h)
    have hlx2 := (kx_X4_part l D cA E sz ad _ hj oq sgq sgv hE hX n σ0 b0  t2 e_q2).1
    exact hp_callQv (As := []) (rest := []) cx hw hno ((kx_X4_part l D cA E _ ad _ hj oq sgq sgv hE hX n σ0 b0  t2 e_q2).2) (cwV 0 cx.2.2.2.2.2.1 (cd_giV cm_764 cm_765 cm_766 cm_663 cm_767) rfl rfl rfl hdc_X4_part ⟨Nat.le_of_ble_eq_true rfl, Nat.le_of_ble_eq_true rfl⟩) (cd_atO hj (by decide) (by decide)) rfl rfl hl.1 rfl (Nat.le_of_ble_eq_true rfl) dX4_readPlainAtom_1 ⟨by (try dsimp only); omega, by (try dsimp only); omega⟩ (by omega) (by omega)
  | inl p2 =>
    have hle2 := (kc_X4_part l D cA E sz ad _ hj oq sgq sgv hE n σ0 b0  p2 e_q2).1
    have hM10003 : p.2.1 ≤ p2.2.2.1 ∧ p.2.2 ≤ p2.2.2.2 := hM3
    have h := cd_inl h
    refine hp_callVv (As := []) (rest := []) cx hw ((kc_X4_part l D cA E _ ad _ hj oq sgq sgv hE n σ0 b0  p2 e_q2).2) (cwV 0 cx.2.2.2.2.2.1 (cd_giV cm_764 cm_765 cm_766 cm_663 cm_767) rfl rfl rfl hdc_X4_part ⟨Nat.le_of_ble_eq_true rfl, Nat.le_of_ble_eq_true rfl⟩) (cd_atO hj (by decide) (by decide)) rfl rfl hl.1 rfl (Nat.le_of_ble_eq_true rfl) dX4_readPlainAtom_1 ⟨by (try dsimp only); omega, by (try dsimp only); omega⟩ (fun u H locs hp hw => ?_)
    obtain ⟨ca, hj, rfl⟩ := hp
    refine W.widen (k := b0.1 - p2.2.2.1) (n := b0.2 - p2.2.2.2) (by omega) (by omega) ?_
    refine lv_aload_n cx.1 cx.2.1 dX4_readPlainAtom_4 rfl (lv_at hl 0 rfl) ?_
    refine cd_gO (o2 := 10) (e2 := 0) (o := 4) (k := 0) (f := 128) hj cx hw hic4 rfl ⟨by decide, rfl, by decide, rfl⟩ rfl (by decide) ⟨rfl, rfl⟩ (List.mem_cons_of_mem _ cm_658) dX4_readPlainAtom_5 ?_
    refine cd_gI (o := 10) (k := 8) (f := 328) hj cx hw hic10 rfl ⟨by decide, rfl, by decide, rfl⟩ rfl (by decide) (List.mem_cons_of_mem _ cm_665) dX4_readPlainAtom_8 ?_
    by_cases c11_3 : (cI p2.2.1 328 0) = 3
    · refine lv_lookup (off := 41) (tgt := 52) cx.1 cx.2.1 dX4_readPlainAtom_11 (by decide) (by rw [c11_3]; decide) (by decide) ?_
      have h := md_ip c11_3 h
      refine lv_aload_n cx.1 cx.2.1 dX4_readPlainAtom_52 rfl (lv_at hl 0 rfl) ?_
      obtain ⟨u4, e_u4, h⟩ := md_ob h
      have hb_u4 : u4 < 60 := (cd_dps e_u4).2
      refine cd_gP (o2 := 9) (u := u4) (o := 4) (k := 8) (f := 136) hj cx hw hic4 rfl ⟨by decide, rfl, by decide, rfl⟩ rfl (by decide) rfl e_u4 (List.mem_cons_of_mem _ cm_749) dX4_readPlainAtom_53 ?_
      refine lv_iconst (v := 0) cx.1 cx.2.1 dX4_readPlainAtom_56 (by decide) ?_
      refine lv_aload_n cx.1 cx.2.1 dX4_readPlainAtom_57 rfl (lv_at hl 0 rfl) ?_
      refine cd_gO (o2 := 2) (e2 := 0) (o := 4) (k := 1) (f := 129) hj cx hw hic4 rfl ⟨by decide, rfl, by decide, rfl⟩ rfl (by decide) ⟨rfl, rfl⟩ (List.mem_cons_of_mem _ cm_722) dX4_readPlainAtom_58 ?_
      refine lv_aload_n cx.1 cx.2.1 dX4_readPlainAtom_61 rfl (lv_at hl 0 rfl) ?_
      refine cd_gO (o2 := 10) (e2 := 0) (o := 4) (k := 0) (f := 128) hj cx hw hic4 rfl ⟨by decide, rfl, by decide, rfl⟩ rfl (by decide) ⟨rfl, rfl⟩ (List.mem_cons_of_mem _ cm_658) dX4_readPlainAtom_62 ?_
      refine cd_gJ (o := 10) (k := 10) (f := 330) hj cx hw hic10 rfl ⟨by decide, rfl, by decide, rfl⟩ rfl (by decide) (List.mem_cons_of_mem _ cm_695) dX4_readPlainAtom_65 ?_
      refine lv_l2i (v := ((cJ p2.2.1 330 0).toInt32)) cx.1 cx.2.1 dX4_readPlainAtom_68 rfl ?_
      obtain ⟨p5, e_p5, h⟩ := md_ob h
      refine hp_callVi (As := [.int ((cJ p2.2.1 330 0).toInt32)]) (rest := [.int 0, .ref (ad 9 u4)]) cx hw (kc_X2_numberIndex l D cA E _ ad _ hj oq sgq sgv hE n p2.2.1 (((cJ p2.2.1 330 0).toInt32)) p5 e_p5) (cwV 1 cx.2.2.2.2.2.1 (cd_giV cm_832 cm_833 cm_834 cm_167 cm_835) rfl rfl rfl hdc_X2_numberIndex ⟨Nat.le_of_ble_eq_true rfl, Nat.le_of_ble_eq_true rfl⟩) (cd_atO hj (by decide) (by decide)) rfl rfl hl.1 rfl (Nat.le_of_ble_eq_true rfl) dX4_readPlainAtom_69 ⟨by (try dsimp only); omega, by (try dsimp only); omega⟩ (fun r u H locs hp hw => ?_)
      obtain ⟨rfl, ca, hj, rfl⟩ := hp
      refine lv_iconst (v := 0) cx.1 cx.2.1 dX4_readPlainAtom_72 (by decide) ?_
      obtain ⟨p6, e_p6, h⟩ := md_ob h
      obtain ⟨hm7, hn7, h⟩ := cd_cks h
      have hM7 : p.2.1 ≤ p6.2.2.1 ∧ p.2.2 ≤ p6.2.2.2 := ⟨hm7, hn7⟩
      have hle6 := (kc_X9_emit l D cA E sz ad _ hj oq sgq sgv hE n p5.2 (p2.2.2) u4 (0 : Int32) (p5.1) (0 : Int32) (show _ < 60 by omega) p6 e_p6).1
      refine hp_callVv (As := [.int 0, .int p5.1, .int 0]) (rest := []) cx hw ((kc_X9_emit l D cA E _ ad _ hj oq sgq sgv hE n p5.2 (p2.2.2) u4 (0 : Int32) (p5.1) (0 : Int32) (show _ < 60 by omega) p6 e_p6).2) (cwV 3 cx.2.2.2.2.2.1 (cd_giV cm_781 cm_782 cm_783 cm_114 cm_784) rfl rfl rfl hdc_X9_emit ⟨Nat.le_of_ble_eq_true rfl, Nat.le_of_ble_eq_true rfl⟩) (cd_atO hj (by decide) (show _ < 60 by omega)) rfl rfl hl.1 rfl (Nat.le_of_ble_eq_true rfl) dX4_readPlainAtom_73 ⟨by (try dsimp only); omega, by (try dsimp only); omega⟩ (fun u H locs hp hw => ?_)
      obtain ⟨ca, hj, rfl⟩ := hp
      refine W.widen (k := b0.1 - p6.2.2.1) (n := b0.2 - p6.2.2.2) (by omega) (by omega) ?_
      refine lv_goto (tgt := 129) cx.1 cx.2.1 dX4_readPlainAtom_76 (by decide) ?_
      exact J129 _ hj p6.2.1 (p6.2.2) _ _ _ (by omega) (by omega) (by omega) (by omega) h hw (lv_sub hl [0] rfl)
    have h := md_in c11_3 h
    by_cases c11_224 : (cI p2.2.1 328 0) = 224
    · refine lv_lookup (off := 68) (tgt := 79) cx.1 cx.2.1 dX4_readPlainAtom_11 (by decide) (by rw [c11_224]; decide) (by decide) ?_
      have h := md_ip c11_224 h
      refine lv_aload_n cx.1 cx.2.1 dX4_readPlainAtom_79 rfl (lv_at hl 0 rfl) ?_
      obtain ⟨u8, e_u8, h⟩ := md_ob h
      have hb_u8 : u8 < 60 := (cd_dps e_u8).2
      refine cd_gP (o2 := 9) (u := u8) (o := 4) (k := 8) (f := 136) hj cx hw hic4 rfl ⟨by decide, rfl, by decide, rfl⟩ rfl (by decide) rfl e_u8 (List.mem_cons_of_mem _ cm_749) dX4_readPlainAtom_80 ?_
      refine lv_iconst (v := 1) cx.1 cx.2.1 dX4_readPlainAtom_83 (by decide) ?_
      refine lv_iconst (v := 0) cx.1 cx.2.1 dX4_readPlainAtom_84 (by decide) ?_
      refine lv_iconst (v := 0) cx.1 cx.2.1 dX4_readPlainAtom_85 (by decide) ?_
      obtain ⟨p9, e_p9, h⟩ := md_ob h
      obtain ⟨hm10, hn10, h⟩ := cd_cks h
      have hM10 : p.2.1 ≤ p9.2.2.1 ∧ p.2.2 ≤ p9.2.2.2 := ⟨hm10, hn10⟩
      have hle9 := (kc_X9_emit l D cA E sz ad _ hj oq sgq sgv hE n p2.2.1 (p2.2.2) u8 (1 : Int32) (0 : Int32) (0 : Int32) (show _ < 60 by omega) p9 e_p9).1
      refine hp_callVv (As := [.int 1, .int 0, .int 0]) (rest := []) cx hw ((kc_X9_emit l D cA E _ ad _ hj oq sgq sgv hE n p2.2.1 (p2.2.2) u8 (1 : Int32) (0 : Int32) (0 : Int32) (show _ < 60 by omega) p9 e_p9).2) (cwV 3 cx.2.2.2.2.2.1 (cd_giV cm_781 cm_782 cm_783 cm_114 cm_784) rfl rfl rfl hdc_X9_emit ⟨Nat.le_of_ble_eq_true rfl, Nat.le_of_ble_eq_true rfl⟩) (cd_atO hj (by decide) (show _ < 60 by omega)) rfl rfl hl.1 rfl (Nat.le_of_ble_eq_true rfl) dX4_readPlainAtom_86 ⟨by (try dsimp only); omega, by (try dsimp only); omega⟩ (fun u H locs hp hw => ?_)
      obtain ⟨ca, hj, rfl⟩ := hp
      refine W.widen (k := b0.1 - p9.2.2.1) (n := b0.2 - p9.2.2.2) (by omega) (by omega) ?_
      refine lv_goto (tgt := 129) cx.1 cx.2.1 dX4_readPlainAtom_89 (by decide) ?_
      exact J129 _ hj p9.2.1 (p9.2.2) _ _ _ (by omega) (by omega) (by omega) (by omega) h hw (lv_sub hl [0] rfl)
    have h := md_in c11_224 h
    by_cases c11_225 : (cI p2.2.1 328 0) = 225
    · refine lv_lookup (off := 81) (tgt := 92) cx.1 cx.2.1 dX4_readPlainAtom_11 (by decide) (by rw [c11_225]; decide) (by decide) ?_
      have h := md_ip c11_225 h
      refine lv_aload_n cx.1 cx.2.1 dX4_readPlainAtom_92 rfl (lv_at hl 0 rfl) ?_
      refine lv_aload_n cx.1 cx.2.1 dX4_readPlainAtom_93 rfl (lv_at hl 0 rfl) ?_
      obtain ⟨u11, e_u11, h⟩ := md_ob h
      have hb_u11 : u11 < 60 := (cd_dps e_u11).2
      refine cd_gP (o2 := 9) (u := u11) (o := 4) (k := 7) (f := 135) hj cx hw hic4 rfl ⟨by decide, rfl, by decide, rfl⟩ rfl (by decide) rfl e_u11 (List.mem_cons_of_mem _ cm_836) dX4_readPlainAtom_94 ?_
      refine lv_iconst (v := 0) cx.1 cx.2.1 dX4_readPlainAtom_97 (by decide) ?_
      obtain ⟨p12, e_p12, h⟩ := md_ob h
      refine hp_callVi (As := [.int 0]) (rest := [.ref (ad 4 0)]) cx hw (kc_X9_ownKey l D cA E _ ad _ hj oq sgq sgv hE n p2.2.1 u11 (0 : Int32) (show _ < 60 by omega) p12 e_p12) (cwV 1 cx.2.2.2.2.2.1 (cd_giV cm_837 cm_791 cm_792 cm_114 cm_793) rfl rfl rfl hdc_X9_ownKey ⟨Nat.le_of_ble_eq_true rfl, Nat.le_of_ble_eq_true rfl⟩) (cd_atO hj (by decide) (show _ < 60 by omega)) rfl rfl hl.1 rfl (Nat.le_of_ble_eq_true rfl) dX4_readPlainAtom_98 ⟨by (try dsimp only); omega, by (try dsimp only); omega⟩ (fun r u H locs hp hw => ?_)
      obtain ⟨rfl, ca, hj, rfl⟩ := hp
      obtain ⟨p13, e_p13, h⟩ := md_ob h
      obtain ⟨hm14, hn14, h⟩ := cd_cks h
      have hM14 : p.2.1 ≤ p13.2.2.1 ∧ p.2.2 ≤ p13.2.2.2 := ⟨hm14, hn14⟩
      have hle13 := (kc_X4_getVariable l D cA E sz ad _ hj oq sgq sgv hE n p12.2 (p2.2.2) (p12.1) p13 e_p13).1
      refine hp_callVv (As := [.int p12.1]) (rest := []) cx hw ((kc_X4_getVariable l D cA E _ ad _ hj oq sgq sgv hE n p12.2 (p2.2.2) (p12.1) p13 e_p13).2) (cwV 1 cx.2.2.2.2.2.1 (cd_giV cm_838 cm_839 cm_840 cm_663 cm_841) rfl rfl rfl hdc_X4_getVariable ⟨Nat.le_of_ble_eq_true rfl, Nat.le_of_ble_eq_true rfl⟩) (cd_atO hj (by decide) (by decide)) rfl rfl hl.1 rfl (Nat.le_of_ble_eq_true rfl) dX4_readPlainAtom_101 ⟨by (try dsimp only); omega, by (try dsimp only); omega⟩ (fun u H locs hp hw => ?_)
      obtain ⟨ca, hj, rfl⟩ := hp
      refine W.widen (k := b0.1 - p13.2.2.1) (n := b0.2 - p13.2.2.2) (by omega) (by omega) ?_
      refine lv_goto (tgt := 129) cx.1 cx.2.1 dX4_readPlainAtom_104 (by decide) ?_
      exact J129 _ hj p13.2.1 (p13.2.2) _ _ _ (by omega) (by omega) (by omega) (by omega) h hw (lv_sub hl [0] rfl)
    have h := md_in c11_225 h
    by_cases c11_226 : (cI p2.2.1 328 0) = 226
    · refine lv_lookup (off := 96) (tgt := 107) cx.1 cx.2.1 dX4_readPlainAtom_11 (by decide) (by rw [c11_226]; decide) (by decide) ?_
      have h := md_ip c11_226 h
      refine lv_aload_n cx.1 cx.2.1 dX4_readPlainAtom_107 rfl (lv_at hl 0 rfl) ?_
      obtain ⟨u15, e_u15, h⟩ := md_ob h
      have hb_u15 : u15 < 60 := (cd_dps e_u15).2
      refine cd_gP (o2 := 9) (u := u15) (o := 4) (k := 8) (f := 136) hj cx hw hic4 rfl ⟨by decide, rfl, by decide, rfl⟩ rfl (by decide) rfl e_u15 (List.mem_cons_of_mem _ cm_749) dX4_readPlainAtom_108 ?_
      refine lv_bipush (v := 27) cx.1 cx.2.1 dX4_readPlainAtom_111 (by decide) ?_
      refine lv_iconst (v := 0) cx.1 cx.2.1 dX4_readPlainAtom_113 (by decide) ?_
      refine lv_iconst (v := 0) cx.1 cx.2.1 dX4_readPlainAtom_114 (by decide) ?_
      obtain ⟨p16, e_p16, h⟩ := md_ob h
      obtain ⟨hm17, hn17, h⟩ := cd_cks h
      have hM17 : p.2.1 ≤ p16.2.2.1 ∧ p.2.2 ≤ p16.2.2.2 := ⟨hm17, hn17⟩
      have hle16 := (kc_X9_emit l D cA E sz ad _ hj oq sgq sgv hE n p2.2.1 (p2.2.2) u15 (27 : Int32) (0 : Int32) (0 : Int32) (show _ < 60 by omega) p16 e_p16).1
      refine hp_callVv (As := [.int 27, .int 0, .int 0]) (rest := []) cx hw ((kc_X9_emit l D cA E _ ad _ hj oq sgq sgv hE n p2.2.1 (p2.2.2) u15 (27 : Int32) (0 : Int32) (0 : Int32) (show _ < 60 by omega) p16 e_p16).2) (cwV 3 cx.2.2.2.2.2.1 (cd_giV cm_781 cm_782 cm_783 cm_114 cm_784) rfl rfl rfl hdc_X9_emit ⟨Nat.le_of_ble_eq_true rfl, Nat.le_of_ble_eq_true rfl⟩) (cd_atO hj (by decide) (show _ < 60 by omega)) rfl rfl hl.1 rfl (Nat.le_of_ble_eq_true rfl) dX4_readPlainAtom_115 ⟨by (try dsimp only); omega, by (try dsimp only); omega⟩ (fun u H locs hp hw => ?_)
      obtain ⟨ca, hj, rfl⟩ := hp
      refine W.widen (k := b0.1 - p16.2.2.1) (n := b0.2 - p16.2.2.2) (by omega) (by omega) ?_
      refine lv_goto (tgt := 129) cx.1 cx.2.1 dX4_readPlainAtom_118 (by decide) ?_
      exact J129 _ hj p16.2.1 (p16.2.2) _ _ _ (by omega) (by omega) (by omega) (by omega) h hw (lv_sub hl [0] rfl)
    have h := md_in c11_226 h
    refine lv_lookup (off := 110) (tgt := 121) cx.1 cx.2.1 dX4_readPlainAtom_11 (by decide) ((lv_osw c11_3 (by decide)).trans ((lv_osw c11_224 (by decide)).trans ((lv_osw c11_225 (by decide)).trans ((lv_osw c11_226 (by decide)).trans rfl)))) (by decide) ?_
    refine lv_aload_n cx.1 cx.2.1 dX4_readPlainAtom_121 rfl (lv_at hl 0 rfl) ?_
    refine lv_aload_n cx.1 cx.2.1 dX4_readPlainAtom_122 rfl (lv_at hl 0 rfl) ?_
    obtain ⟨q18, e_q18, h⟩ := md_ob h
    obtain ⟨hm19, hn19, h⟩ := cd_cks h
    have hM19 : p.2.1 ≤ (Sum.elim (fun (p : Int32 × cd_S × cd_B) => p.2.2) (fun (t : cd_S × cd_B) => t.2) q18).1 ∧ p.2.2 ≤ (Sum.elim (fun (p : Int32 × cd_S × cd_B) => p.2.2) (fun (t : cd_S × cd_B) => t.2) q18).2 := ⟨hm19, hn19⟩
    cases q18 with
    | inr t18 =>
      obtain rfl : t18 = p := Sum.inr.inj (Option.some.inj h)
      have hlx18 := (kx_X4_variableKey l D cA E sz ad _ hj oq sgq sgv hE hX n p2.2.1 (p2.2.2)  t18 e_q18).1
      exact hp_callQv (As := []) (rest := [.ref (ad 4 0)]) cx hw hno ((kx_X4_variableKey l D cA E _ ad _ hj oq sgq sgv hE hX n p2.2.1 (p2.2.2)  t18 e_q18).2) (cwV 0 cx.2.2.2.2.2.1 (cd_giV cm_842 cm_843 cm_844 cm_663 cm_845) rfl rfl rfl hdc_X4_variableKey ⟨Nat.le_of_ble_eq_true rfl, Nat.le_of_ble_eq_true rfl⟩) (cd_atO hj (by decide) (by decide)) rfl rfl hl.1 rfl (Nat.le_of_ble_eq_true rfl) dX4_readPlainAtom_123 ⟨by (try dsimp only); omega, by (try dsimp only); omega⟩ (by omega) (by omega)
    | inl p18 =>
      have hle18 := (kc_X4_variableKey l D cA E sz ad _ hj oq sgq sgv hE n p2.2.1 (p2.2.2)  p18 e_q18).1
      have hM10019 : p.2.1 ≤ p18.2.2.1 ∧ p.2.2 ≤ p18.2.2.2 := hM19
      have h := cd_inl h
      refine hp_callVi (As := []) (rest := [.ref (ad 4 0)]) cx hw ((kc_X4_variableKey l D cA E _ ad _ hj oq sgq sgv hE n p2.2.1 (p2.2.2)  p18 e_q18).2) (cwV 0 cx.2.2.2.2.2.1 (cd_giV cm_842 cm_843 cm_844 cm_663 cm_845) rfl rfl rfl hdc_X4_variableKey ⟨Nat.le_of_ble_eq_true rfl, Nat.le_of_ble_eq_true rfl⟩) (cd_atO hj (by decide) (by decide)) rfl rfl hl.1 rfl (Nat.le_of_ble_eq_true rfl) dX4_readPlainAtom_123 ⟨by (try dsimp only); omega, by (try dsimp only); omega⟩ (fun r u H locs hp hw => ?_)
      obtain ⟨rfl, ca, hj, rfl⟩ := hp
      refine W.widen (k := b0.1 - p18.2.2.1) (n := b0.2 - p18.2.2.2) (by omega) (by omega) ?_
      obtain ⟨p20, e_p20, h⟩ := md_ob h
      obtain ⟨hm21, hn21, h⟩ := cd_cks h
      have hM21 : p.2.1 ≤ p20.2.2.1 ∧ p.2.2 ≤ p20.2.2.2 := ⟨hm21, hn21⟩
      have hle20 := (kc_X4_getVariable l D cA E sz ad _ hj oq sgq sgv hE n p18.2.1 (p18.2.2) (p18.1) p20 e_p20).1
      refine hp_callVv (As := [.int p18.1]) (rest := []) cx hw ((kc_X4_getVariable l D cA E _ ad _ hj oq sgq sgv hE n p18.2.1 (p18.2.2) (p18.1) p20 e_p20).2) (cwV 1 cx.2.2.2.2.2.1 (cd_giV cm_838 cm_839 cm_840 cm_663 cm_841) rfl rfl rfl hdc_X4_getVariable ⟨Nat.le_of_ble_eq_true rfl, Nat.le_of_ble_eq_true rfl⟩) (cd_atO hj (by decide) (by decide)) rfl rfl hl.1 rfl (Nat.le_of_ble_eq_true rfl) dX4_readPlainAtom_126 ⟨by (try dsimp only); omega, by (try dsimp only); omega⟩ (fun u H locs hp hw => ?_)
      obtain ⟨ca, hj, rfl⟩ := hp
      refine W.widen (k := b0.1 - p20.2.2.1) (n := b0.2 - p20.2.2.2) (by omega) (by omega) ?_
      exact J129 _ hj p20.2.1 (p20.2.2) _ _ _ (by omega) (by omega) (by omega) (by omega) h hw (lv_sub hl [0] rfl)
set_option maxHeartbeats 4000000 in
set_option maxRecDepth 100000 in
theorem kx_X4_readAtom (l : Launch) (D : va_G) (cA : Nat → ClassId) (E : hp_N) (sz : Nat) (ad : Nat → Nat → Nat) (ca0 : Nat → Nat) (hj : cd_inj ad ca0) (oq sgq sgv : Nat) (hE : cd_E E oq sgq sgv) (hX : cd_X l E) (n d : Nat) (rec : cd_R) (in19 : ∀ (sz : Nat) (ca : Nat → Nat) (_ : cd_inj ad ca) (σ : cd_S) (b : cd_B) (a1 : Int32) (a2 : Int32) (p : Int32 × cd_S × cd_B), rec 19 0 a1 a2 σ b = some (Sum.inl p) → (p.2.2.1 ≤ b.1 ∧ p.2.2.2 ≤ b.2) ∧ Met l yX4_readAsking (Cond.code yX4_readAsking cX4_readAsking 4 none :: v_CLS) ({ frames := d + 16, cells := b.1 - p.2.2.1, slots := b.2 - p.2.2.2, locals := 26 * d + 286 }) (hp_Pc D vwCl (hp_Tl cA) E sz (cd_pic cA ad ca σ) [.ref (ad 4 0), .int a1, .int a2]) (hp_Qv D vwCl (hp_Tl cA) sz (cd_pic cA ad ca σ) (fun u => ∃ ca1, cd_inj ad ca1 ∧ u = cd_pic cA ad ca1 p.2.1)) (b.1 - p.2.2.1) (b.2 - p.2.2.2) (hp_A (cd_pic cA ad ca σ) sz)) (in0 : ∀ (sz : Nat) (ca : Nat → Nat) (_ : cd_inj ad ca) (σ : cd_S) (b : cd_B) (a1 : Int32) (p : Int32 × cd_S × cd_B), rec 0 0 a1 0 σ b = some (Sum.inl p) → (p.2.2.1 ≤ b.1 ∧ p.2.2.2 ≤ b.2) ∧ Met l yX4_readExpression (Cond.code yX4_readExpression cX4_readExpression 2 none :: v_CLS) ({ frames := d + 16, cells := b.1 - p.2.2.1, slots := b.2 - p.2.2.2, locals := 26 * d + 286 }) (hp_Pc D vwCl (hp_Tl cA) E sz (cd_pic cA ad ca σ) [.ref (ad 4 0), .int a1]) (hp_Qv D vwCl (hp_Tl cA) sz (cd_pic cA ad ca σ) (fun u => ∃ ca1, cd_inj ad ca1 ∧ u = cd_pic cA ad ca1 p.2.1)) (b.1 - p.2.2.1) (b.2 - p.2.2.2) (hp_A (cd_pic cA ad ca σ) sz)) (in17 : ∀ (sz : Nat) (ca : Nat → Nat) (_ : cd_inj ad ca) (σ : cd_S) (b : cd_B) (a1 : Int32) (p : Int32 × cd_S × cd_B), rec 17 0 a1 0 σ b = some (Sum.inl p) → (p.2.2.1 ≤ b.1 ∧ p.2.2.2 ≤ b.2) ∧ Met l yX4_readFun (Cond.code yX4_readFun cX4_readFun 4 none :: v_CLS) ({ frames := d + 16, cells := b.1 - p.2.2.1, slots := b.2 - p.2.2.2, locals := 26 * d + 286 }) (hp_Pc D vwCl (hp_Tl cA) E sz (cd_pic cA ad ca σ) [.ref (ad 4 0), .int a1]) (hp_Qv D vwCl (hp_Tl cA) sz (cd_pic cA ad ca σ) (fun u => ∃ ca1, cd_inj ad ca1 ∧ u = cd_pic cA ad ca1 p.2.1)) (b.1 - p.2.2.1) (b.2 - p.2.2.2) (hp_A (cd_pic cA ad ca σ) sz)) (in18 : ∀ (sz : Nat) (ca : Nat → Nat) (_ : cd_inj ad ca) (σ : cd_S) (b : cd_B) (a1 : Int32) (p : Int32 × cd_S × cd_B), rec 18 0 a1 0 σ b = some (Sum.inl p) → (p.2.2.1 ≤ b.1 ∧ p.2.2.2 ≤ b.2) ∧ Met l yX4_readRow (Cond.code yX4_readRow cX4_readRow 3 none :: v_CLS) ({ frames := d + 16, cells := b.1 - p.2.2.1, slots := b.2 - p.2.2.2, locals := 26 * d + 286 }) (hp_Pc D vwCl (hp_Tl cA) E sz (cd_pic cA ad ca σ) [.ref (ad 4 0), .int a1]) (hp_Qv D vwCl (hp_Tl cA) sz (cd_pic cA ad ca σ) (fun u => ∃ ca1, cd_inj ad ca1 ∧ u = cd_pic cA ad ca1 p.2.1)) (b.1 - p.2.2.1) (b.2 - p.2.2.2) (hp_A (cd_pic cA ad ca σ) sz)) (ix19 : ∀ (sz : Nat) (ca : Nat → Nat) (_ : cd_inj ad ca) (σ : cd_S) (b : cd_B) (a1 : Int32) (a2 : Int32) (p : cd_S × cd_B), rec 19 0 a1 a2 σ b = some (Sum.inr p) → (p.2.1 ≤ b.1 ∧ p.2.2 ≤ b.2) ∧ vx_Met l yX4_readAsking (Cond.code yX4_readAsking cX4_readAsking 4 none :: v_CLS) ({ frames := d + 16, cells := b.1 - p.2.1, slots := b.2 - p.2.2, locals := 26 * d + 286 }) (hp_Pc D vwCl (hp_Tl cA) E sz (cd_pic cA ad ca σ) [.ref (ad 4 0), .int a1, .int a2]) (hp_Qv D vwCl (hp_Tl cA) sz (cd_pic cA ad ca σ) (fun _ => False)) (hp_XQ D vwCl (hp_Tl cA) "java/lang/IllegalArgumentException" (cd_pic cA ad ca σ) sz (fun u => ∃ ca1, cd_inj ad ca1 ∧ u = cd_pic cA ad ca1 p.1)) (b.1 - p.2.1) (b.2 - p.2.2) (hp_A (cd_pic cA ad ca σ) sz)) (ix0 : ∀ (sz : Nat) (ca : Nat → Nat) (_ : cd_inj ad ca) (σ : cd_S) (b : cd_B) (a1 : Int32) (p : cd_S × cd_B), rec 0 0 a1 0 σ b = some (Sum.inr p) → (p.2.1 ≤ b.1 ∧ p.2.2 ≤ b.2) ∧ vx_Met l yX4_readExpression (Cond.code yX4_readExpression cX4_readExpression 2 none :: v_CLS) ({ frames := d + 16, cells := b.1 - p.2.1, slots := b.2 - p.2.2, locals := 26 * d + 286 }) (hp_Pc D vwCl (hp_Tl cA) E sz (cd_pic cA ad ca σ) [.ref (ad 4 0), .int a1]) (hp_Qv D vwCl (hp_Tl cA) sz (cd_pic cA ad ca σ) (fun _ => False)) (hp_XQ D vwCl (hp_Tl cA) "java/lang/IllegalArgumentException" (cd_pic cA ad ca σ) sz (fun u => ∃ ca1, cd_inj ad ca1 ∧ u = cd_pic cA ad ca1 p.1)) (b.1 - p.2.1) (b.2 - p.2.2) (hp_A (cd_pic cA ad ca σ) sz)) (ix17 : ∀ (sz : Nat) (ca : Nat → Nat) (_ : cd_inj ad ca) (σ : cd_S) (b : cd_B) (a1 : Int32) (p : cd_S × cd_B), rec 17 0 a1 0 σ b = some (Sum.inr p) → (p.2.1 ≤ b.1 ∧ p.2.2 ≤ b.2) ∧ vx_Met l yX4_readFun (Cond.code yX4_readFun cX4_readFun 4 none :: v_CLS) ({ frames := d + 16, cells := b.1 - p.2.1, slots := b.2 - p.2.2, locals := 26 * d + 286 }) (hp_Pc D vwCl (hp_Tl cA) E sz (cd_pic cA ad ca σ) [.ref (ad 4 0), .int a1]) (hp_Qv D vwCl (hp_Tl cA) sz (cd_pic cA ad ca σ) (fun _ => False)) (hp_XQ D vwCl (hp_Tl cA) "java/lang/IllegalArgumentException" (cd_pic cA ad ca σ) sz (fun u => ∃ ca1, cd_inj ad ca1 ∧ u = cd_pic cA ad ca1 p.1)) (b.1 - p.2.1) (b.2 - p.2.2) (hp_A (cd_pic cA ad ca σ) sz)) (ix18 : ∀ (sz : Nat) (ca : Nat → Nat) (_ : cd_inj ad ca) (σ : cd_S) (b : cd_B) (a1 : Int32) (p : cd_S × cd_B), rec 18 0 a1 0 σ b = some (Sum.inr p) → (p.2.1 ≤ b.1 ∧ p.2.2 ≤ b.2) ∧ vx_Met l yX4_readRow (Cond.code yX4_readRow cX4_readRow 3 none :: v_CLS) ({ frames := d + 16, cells := b.1 - p.2.1, slots := b.2 - p.2.2, locals := 26 * d + 286 }) (hp_Pc D vwCl (hp_Tl cA) E sz (cd_pic cA ad ca σ) [.ref (ad 4 0), .int a1]) (hp_Qv D vwCl (hp_Tl cA) sz (cd_pic cA ad ca σ) (fun _ => False)) (hp_XQ D vwCl (hp_Tl cA) "java/lang/IllegalArgumentException" (cd_pic cA ad ca σ) sz (fun u => ∃ ca1, cd_inj ad ca1 ∧ u = cd_pic cA ad ca1 p.1)) (b.1 - p.2.1) (b.2 - p.2.2) (hp_A (cd_pic cA ad ca σ) sz)) (σ0 : cd_S) (b0 : cd_B) (a1 : Int32) (p : (cd_S × cd_B)) (h : f_X4_readAtom n rec σ0 b0 a1 = some (Sum.inr p)) : (p.2.1 ≤ b0.1 ∧ p.2.2 ≤ b0.2) ∧ vx_Met l yX4_readAtom (Cond.code yX4_readAtom cX4_readAtom 2 none :: v_CLS) ({ frames := (d + 1) + 16, cells := b0.1 - p.2.1, slots := b0.2 - p.2.2, locals := 26 * (d + 1) + 286 }) (hp_Pc D vwCl (hp_Tl cA) E sz (cd_pic cA ad ca0 σ0) [.ref (ad 4 0), .int a1]) (hp_Qv D vwCl (hp_Tl cA) sz (cd_pic cA ad ca0 σ0) (fun _ => False)) (hp_XQ D vwCl (hp_Tl cA) "java/lang/IllegalArgumentException" (cd_pic cA ad ca0 σ0) sz (fun u => ∃ ca1, cd_inj ad ca1 ∧ u = cd_pic cA ad ca1 p.1)) (b0.1 - p.2.1) (b0.2 - p.2.2) (hp_A (cd_pic cA ad ca0 σ0) sz) := by
  obtain ⟨hm0, hn0, h⟩ := cd_cks h
  have hM0 : p.2.1 ≤ b0.1 ∧ p.2.2 ≤ b0.2 := ⟨hm0, hn0⟩
  refine ⟨hM0, ?_⟩
  refine hp_ofWx (cc := cX4_readAtom) (maxL := 2) (ret := none) (by decide) rfl (Nat.le_of_ble_eq_true rfl) ?_
  intro pp ee ss mm bb mt cd ls cx hsz hw hl hno
  have hl : lv_has ls 2 [(0, .ref (ad 4 0)), (1, .int a1)] := hl
  refine W.widen (k := b0.1 - b0.1) (n := b0.2 - b0.2) (Nat.zero_le _) (Nat.zero_le _) ?_
  refine lv_aload_n cx.1 cx.2.1 dX4_readAtom_0 rfl (lv_at hl 0 rfl) ?_
  refine cd_gO (o2 := 10) (e2 := 0) (o := 4) (k := 0) (f := 128) hj cx hw hic4 rfl ⟨by decide, rfl, by decide, rfl⟩ rfl (by decide) ⟨rfl, rfl⟩ (List.mem_cons_of_mem _ cm_658) dX4_readAtom_1 ?_
  refine cd_gI (o := 10) (k := 8) (f := 328) hj cx hw hic10 rfl ⟨by decide, rfl, by decide, rfl⟩ rfl (by decide) (List.mem_cons_of_mem _ cm_665) dX4_readAtom_4 ?_
  by_cases c7_40 : (cI σ0 328 0) = 40
  · refine lv_lookup (off := 65) (tgt := 72) cx.1 cx.2.1 dX4_readAtom_7 (by decide) (by rw [c7_40]; decide) (by decide) ?_
    have h := md_ip c7_40 h
    refine lv_aload_n cx.1 cx.2.1 dX4_readAtom_72 rfl (lv_at hl 0 rfl) ?_
    refine cd_gO (o2 := 10) (e2 := 0) (o := 4) (k := 0) (f := 128) hj cx hw hic4 rfl ⟨by decide, rfl, by decide, rfl⟩ rfl (by decide) ⟨rfl, rfl⟩ (List.mem_cons_of_mem _ cm_658) dX4_readAtom_73 ?_
    obtain ⟨p1, e_p1, h⟩ := md_ob h
    refine hp_callVv (As := []) (rest := []) cx hw (kc_X10_advance l D cA E _ ad _ hj oq sgq sgv hE n σ0  p1 e_p1) (cwV 0 cx.2.2.2.2.2.1 (cd_giV cm_670 cm_671 cm_672 cm_301 cm_673) rfl rfl rfl hdc_X10_advance ⟨by (try dsimp only); omega, by (try dsimp only); omega⟩) (cd_atO hj (by decide) (by decide)) rfl rfl hl.1 rfl (Nat.le_of_ble_eq_true rfl) dX4_readAtom_76 ⟨by (try dsimp only); omega, by (try dsimp only); omega⟩ (fun u H locs hp hw => ?_)
    obtain ⟨ca, hj, rfl⟩ := hp
    refine lv_aload_n cx.1 cx.2.1 dX4_readAtom_79 rfl (lv_at hl 0 rfl) ?_
    refine lv_iload_n cx.1 cx.2.1 dX4_readAtom_80 rfl (lv_at hl 1 rfl) ?_
    refine lv_iconst (v := 1) cx.1 cx.2.1 dX4_readAtom_81 (by decide) ?_
    refine lv_iadd cx.1 cx.2.1 dX4_readAtom_82 ?_
    obtain ⟨q2, e_q2, h⟩ := md_ob h
    obtain ⟨hm3, hn3, h⟩ := cd_cks h
    have hM3 : p.2.1 ≤ (Sum.elim (fun (p : Int32 × cd_S × cd_B) => p.2.2) (fun (t : cd_S × cd_B) => t.2) q2).1 ∧ p.2.2 ≤ (Sum.elim (fun (p : Int32 × cd_S × cd_B) => p.2.2) (fun (t : cd_S × cd_B) => t.2) q2).2 := ⟨hm3, hn3⟩
    cases q2 with
    | inr t2 =>
      obtain rfl : t2 = p := Sum.inr.inj (Option.some.inj h)
      have hlx2 := (ix0 sz _ hj p1.2 b0 ((a1 + 1)) t2 e_q2).1
      exact hp_callQv (As := [.int (a1 + 1)]) (rest := []) cx hw hno ((ix0 _ _ hj p1.2 b0 ((a1 + 1)) t2 e_q2).2) (cwV 1 cx.2.2.2.2.2.1 (cd_giV cm_760 cm_761 cm_762 cm_663 cm_763) rfl rfl rfl hdc_X4_readExpression ⟨by (try dsimp only); omega, by (try dsimp only); omega⟩) (cd_atO hj (by decide) (by decide)) rfl rfl hl.1 rfl (Nat.le_of_ble_eq_true rfl) dX4_readAtom_83 ⟨by (try dsimp only); omega, by (try dsimp only); omega⟩ (by omega) (by omega)
    | inl p2 =>
      have hle2 := (in0 sz _ hj p1.2 b0 ((a1 + 1)) p2 e_q2).1
      have hM10003 : p.2.1 ≤ p2.2.2.1 ∧ p.2.2 ≤ p2.2.2.2 := hM3
      have h := cd_inl h
      refine hp_callVv (As := [.int (a1 + 1)]) (rest := []) cx hw ((in0 _ _ hj p1.2 b0 ((a1 + 1)) p2 e_q2).2) (cwV 1 cx.2.2.2.2.2.1 (cd_giV cm_760 cm_761 cm_762 cm_663 cm_763) rfl rfl rfl hdc_X4_readExpression ⟨by (try dsimp only); omega, by (try dsimp only); omega⟩) (cd_atO hj (by decide) (by decide)) rfl rfl hl.1 rfl (Nat.le_of_ble_eq_true rfl) dX4_readAtom_83 ⟨by (try dsimp only); omega, by (try dsimp only); omega⟩ (fun u H locs hp hw => ?_)
      obtain ⟨ca, hj, rfl⟩ := hp
      refine W.widen (k := b0.1 - p2.2.2.1) (n := b0.2 - p2.2.2.2) (by omega) (by omega) ?_
      refine lv_aload_n cx.1 cx.2.1 dX4_readAtom_86 rfl (lv_at hl 0 rfl) ?_
      refine lv_bipush (v := 41) cx.1 cx.2.1 dX4_readAtom_87 (by decide) ?_
      obtain ⟨q4, e_q4, h⟩ := md_ob h
      obtain ⟨hm5, hn5, h⟩ := cd_cks h
      have hM5 : p.2.1 ≤ (Sum.elim (fun (p : Int32 × cd_S × cd_B) => p.2.2) (fun (t : cd_S × cd_B) => t.2) q4).1 ∧ p.2.2 ≤ (Sum.elim (fun (p : Int32 × cd_S × cd_B) => p.2.2) (fun (t : cd_S × cd_B) => t.2) q4).2 := ⟨hm5, hn5⟩
      cases q4 with
      | inr t4 =>
        obtain rfl : t4 = p := Sum.inr.inj (Option.some.inj h)
        have hlx4 := (kx_X4_pass l D cA E sz ad _ hj oq sgq sgv hE hX n p2.2.1 (p2.2.2) (41 : Int32) t4 e_q4).1
        exact hp_callQv (As := [.int 41]) (rest := []) cx hw hno ((kx_X4_pass l D cA E _ ad _ hj oq sgq sgv hE hX n p2.2.1 (p2.2.2) (41 : Int32) t4 e_q4).2) (cwV 1 cx.2.2.2.2.2.1 (cd_giV cm_714 cm_715 cm_716 cm_663 cm_717) rfl rfl rfl hdc_X4_pass ⟨by (try dsimp only); omega, by (try dsimp only); omega⟩) (cd_atO hj (by decide) (by decide)) rfl rfl hl.1 rfl (Nat.le_of_ble_eq_true rfl) dX4_readAtom_89 ⟨by (try dsimp only); omega, by (try dsimp only); omega⟩ (by omega) (by omega)
      | inl p4 =>
        have hle4 := (kc_X4_pass l D cA E sz ad _ hj oq sgq sgv hE n p2.2.1 (p2.2.2) (41 : Int32) p4 e_q4).1
        have hM10005 : p.2.1 ≤ p4.2.2.1 ∧ p.2.2 ≤ p4.2.2.2 := hM5
        have h := cd_inl h
        refine hp_callVv (As := [.int 41]) (rest := []) cx hw ((kc_X4_pass l D cA E _ ad _ hj oq sgq sgv hE n p2.2.1 (p2.2.2) (41 : Int32) p4 e_q4).2) (cwV 1 cx.2.2.2.2.2.1 (cd_giV cm_714 cm_715 cm_716 cm_663 cm_717) rfl rfl rfl hdc_X4_pass ⟨by (try dsimp only); omega, by (try dsimp only); omega⟩) (cd_atO hj (by decide) (by decide)) rfl rfl hl.1 rfl (Nat.le_of_ble_eq_true rfl) dX4_readAtom_89 ⟨by (try dsimp only); omega, by (try dsimp only); omega⟩ (fun u H locs hp hw => ?_)
        obtain ⟨ca, hj, rfl⟩ := hp
        refine W.widen (k := b0.1 - p4.2.2.1) (n := b0.2 - p4.2.2.2) (by omega) (by omega) ?_
        refine lv_goto (tgt := 134) cx.1 cx.2.1 dX4_readAtom_92 (by decide) ?_
        exact nomatch Option.some.inj h
  have h := md_in c7_40 h
  by_cases c7_123 : (cI σ0 328 0) = 123
  · refine lv_lookup (off := 57) (tgt := 64) cx.1 cx.2.1 dX4_readAtom_7 (by decide) (by rw [c7_123]; decide) (by decide) ?_
    have h := md_ip c7_123 h
    refine lv_aload_n cx.1 cx.2.1 dX4_readAtom_64 rfl (lv_at hl 0 rfl) ?_
    refine lv_iload_n cx.1 cx.2.1 dX4_readAtom_65 rfl (lv_at hl 1 rfl) ?_
    obtain ⟨q6, e_q6, h⟩ := md_ob h
    obtain ⟨hm7, hn7, h⟩ := cd_cks h
    have hM7 : p.2.1 ≤ (Sum.elim (fun (p : Int32 × cd_S × cd_B) => p.2.2) (fun (t : cd_S × cd_B) => t.2) q6).1 ∧ p.2.2 ≤ (Sum.elim (fun (p : Int32 × cd_S × cd_B) => p.2.2) (fun (t : cd_S × cd_B) => t.2) q6).2 := ⟨hm7, hn7⟩
    cases q6 with
    | inr t6 =>
      obtain rfl : t6 = p := Sum.inr.inj (Option.some.inj h)
      have hlx6 := (ix18 sz _ hj σ0 b0 a1 t6 e_q6).1
      exact hp_callQv (As := [.int a1]) (rest := []) cx hw hno ((ix18 _ _ hj σ0 b0 a1 t6 e_q6).2) (cwV 1 cx.2.2.2.2.2.1 (cd_giV cm_815 cm_816 cm_817 cm_663 cm_818) rfl rfl rfl hdc_X4_readRow ⟨by (try dsimp only); omega, by (try dsimp only); omega⟩) (cd_atO hj (by decide) (by decide)) rfl rfl hl.1 rfl (Nat.le_of_ble_eq_true rfl) dX4_readAtom_66 ⟨by (try dsimp only); omega, by (try dsimp only); omega⟩ (by omega) (by omega)
    | inl p6 =>
      have hle6 := (in18 sz _ hj σ0 b0 a1 p6 e_q6).1
      have hM10007 : p.2.1 ≤ p6.2.2.1 ∧ p.2.2 ≤ p6.2.2.2 := hM7
      have h := cd_inl h
      refine hp_callVv (As := [.int a1]) (rest := []) cx hw ((in18 _ _ hj σ0 b0 a1 p6 e_q6).2) (cwV 1 cx.2.2.2.2.2.1 (cd_giV cm_815 cm_816 cm_817 cm_663 cm_818) rfl rfl rfl hdc_X4_readRow ⟨by (try dsimp only); omega, by (try dsimp only); omega⟩) (cd_atO hj (by decide) (by decide)) rfl rfl hl.1 rfl (Nat.le_of_ble_eq_true rfl) dX4_readAtom_66 ⟨by (try dsimp only); omega, by (try dsimp only); omega⟩ (fun u H locs hp hw => ?_)
      obtain ⟨ca, hj, rfl⟩ := hp
      refine W.widen (k := b0.1 - p6.2.2.1) (n := b0.2 - p6.2.2.2) (by omega) (by omega) ?_
      refine lv_goto (tgt := 134) cx.1 cx.2.1 dX4_readAtom_69 (by decide) ?_
      exact nomatch Option.some.inj h
  have h := md_in c7_123 h
  by_cases c7_222 : (cI σ0 328 0) = 222
  · refine lv_lookup (off := 95) (tgt := 102) cx.1 cx.2.1 dX4_readAtom_7 (by decide) (by rw [c7_222]; decide) (by decide) ?_
    have h := md_ip c7_222 h
    refine lv_aload_n cx.1 cx.2.1 dX4_readAtom_102 rfl (lv_at hl 0 rfl) ?_
    refine lv_iload_n cx.1 cx.2.1 dX4_readAtom_103 rfl (lv_at hl 1 rfl) ?_
    obtain ⟨q8, e_q8, h⟩ := md_ob h
    obtain ⟨hm9, hn9, h⟩ := cd_cks h
    have hM9 : p.2.1 ≤ (Sum.elim (fun (p : Int32 × cd_S × cd_B) => p.2.2) (fun (t : cd_S × cd_B) => t.2) q8).1 ∧ p.2.2 ≤ (Sum.elim (fun (p : Int32 × cd_S × cd_B) => p.2.2) (fun (t : cd_S × cd_B) => t.2) q8).2 := ⟨hm9, hn9⟩
    cases q8 with
    | inr t8 =>
      obtain rfl : t8 = p := Sum.inr.inj (Option.some.inj h)
      have hlx8 := (ix17 sz _ hj σ0 b0 a1 t8 e_q8).1
      exact hp_callQv (As := [.int a1]) (rest := []) cx hw hno ((ix17 _ _ hj σ0 b0 a1 t8 e_q8).2) (cwV 1 cx.2.2.2.2.2.1 (cd_giV cm_846 cm_847 cm_848 cm_663 cm_849) rfl rfl rfl hdc_X4_readFun ⟨by (try dsimp only); omega, by (try dsimp only); omega⟩) (cd_atO hj (by decide) (by decide)) rfl rfl hl.1 rfl (Nat.le_of_ble_eq_true rfl) dX4_readAtom_104 ⟨by (try dsimp only); omega, by (try dsimp only); omega⟩ (by omega) (by omega)
    | inl p8 =>
      have hle8 := (in17 sz _ hj σ0 b0 a1 p8 e_q8).1
      have hM10009 : p.2.1 ≤ p8.2.2.1 ∧ p.2.2 ≤ p8.2.2.2 := hM9
      have h := cd_inl h
      refine hp_callVv (As := [.int a1]) (rest := []) cx hw ((in17 _ _ hj σ0 b0 a1 p8 e_q8).2) (cwV 1 cx.2.2.2.2.2.1 (cd_giV cm_846 cm_847 cm_848 cm_663 cm_849) rfl rfl rfl hdc_X4_readFun ⟨by (try dsimp only); omega, by (try dsimp only); omega⟩) (cd_atO hj (by decide) (by decide)) rfl rfl hl.1 rfl (Nat.le_of_ble_eq_true rfl) dX4_readAtom_104 ⟨by (try dsimp only); omega, by (try dsimp only); omega⟩ (fun u H locs hp hw => ?_)
      obtain ⟨ca, hj, rfl⟩ := hp
      refine W.widen (k := b0.1 - p8.2.2.1) (n := b0.2 - p8.2.2.2) (by omega) (by omega) ?_
      refine lv_goto (tgt := 134) cx.1 cx.2.1 dX4_readAtom_107 (by decide) ?_
      exact nomatch Option.some.inj h
  have h := md_in c7_222 h
  by_cases c7_223 : (cI σ0 328 0) = 223
  · refine lv_lookup (off := 88) (tgt := 95) cx.1 cx.2.1 dX4_readAtom_7 (by decide) (by rw [c7_223]; decide) (by decide) ?_
    have h := md_ip c7_223 h
    refine lv_aload_n cx.1 cx.2.1 dX4_readAtom_95 rfl (lv_at hl 0 rfl) ?_
    obtain ⟨q10, e_q10, h⟩ := md_ob h
    obtain ⟨hm11, hn11, h⟩ := cd_cks h
    have hM11 : p.2.1 ≤ (Sum.elim (fun (p : Int32 × cd_S × cd_B) => p.2.2) (fun (t : cd_S × cd_B) => t.2) q10).1 ∧ p.2.2 ≤ (Sum.elim (fun (p : Int32 × cd_S × cd_B) => p.2.2) (fun (t : cd_S × cd_B) => t.2) q10).2 := ⟨hm11, hn11⟩
    cases q10 with
    | inr t10 =>
      obtain rfl : t10 = p := Sum.inr.inj (Option.some.inj h)
      have hlx10 := (kx_X4_readNew l D cA E sz ad _ hj oq sgq sgv hE hX n σ0 b0  t10 e_q10).1
      exact hp_callQv (As := []) (rest := []) cx hw hno ((kx_X4_readNew l D cA E _ ad _ hj oq sgq sgv hE hX n σ0 b0  t10 e_q10).2) (cwV 0 cx.2.2.2.2.2.1 (cd_giV cm_850 cm_851 cm_852 cm_663 cm_853) rfl rfl rfl hdc_X4_readNew ⟨by (try dsimp only); omega, by (try dsimp only); omega⟩) (cd_atO hj (by decide) (by decide)) rfl rfl hl.1 rfl (Nat.le_of_ble_eq_true rfl) dX4_readAtom_96 ⟨by (try dsimp only); omega, by (try dsimp only); omega⟩ (by omega) (by omega)
    | inl p10 =>
      have hle10 := (kc_X4_readNew l D cA E sz ad _ hj oq sgq sgv hE n σ0 b0  p10 e_q10).1
      have hM10011 : p.2.1 ≤ p10.2.2.1 ∧ p.2.2 ≤ p10.2.2.2 := hM11
      have h := cd_inl h
      refine hp_callVv (As := []) (rest := []) cx hw ((kc_X4_readNew l D cA E _ ad _ hj oq sgq sgv hE n σ0 b0  p10 e_q10).2) (cwV 0 cx.2.2.2.2.2.1 (cd_giV cm_850 cm_851 cm_852 cm_663 cm_853) rfl rfl rfl hdc_X4_readNew ⟨by (try dsimp only); omega, by (try dsimp only); omega⟩) (cd_atO hj (by decide) (by decide)) rfl rfl hl.1 rfl (Nat.le_of_ble_eq_true rfl) dX4_readAtom_96 ⟨by (try dsimp only); omega, by (try dsimp only); omega⟩ (fun u H locs hp hw => ?_)
      obtain ⟨ca, hj, rfl⟩ := hp
      refine W.widen (k := b0.1 - p10.2.2.1) (n := b0.2 - p10.2.2.2) (by omega) (by omega) ?_
      refine lv_goto (tgt := 134) cx.1 cx.2.1 dX4_readAtom_99 (by decide) ?_
      exact nomatch Option.some.inj h
  have h := md_in c7_223 h
  by_cases c7_227 : (cI σ0 328 0) = 227
  · refine lv_lookup (off := 103) (tgt := 110) cx.1 cx.2.1 dX4_readAtom_7 (by decide) (by rw [c7_227]; decide) (by decide) ?_
    have h := md_ip c7_227 h
    refine lv_aload_n cx.1 cx.2.1 dX4_readAtom_110 rfl (lv_at hl 0 rfl) ?_
    refine lv_bipush (v := 25) cx.1 cx.2.1 dX4_readAtom_111 (by decide) ?_
    refine lv_iload_n cx.1 cx.2.1 dX4_readAtom_113 rfl (lv_at hl 1 rfl) ?_
    obtain ⟨q12, e_q12, h⟩ := md_ob h
    obtain ⟨hm13, hn13, h⟩ := cd_cks h
    have hM13 : p.2.1 ≤ (Sum.elim (fun (p : Int32 × cd_S × cd_B) => p.2.2) (fun (t : cd_S × cd_B) => t.2) q12).1 ∧ p.2.2 ≤ (Sum.elim (fun (p : Int32 × cd_S × cd_B) => p.2.2) (fun (t : cd_S × cd_B) => t.2) q12).2 := ⟨hm13, hn13⟩
    cases q12 with
    | inr t12 =>
      obtain rfl : t12 = p := Sum.inr.inj (Option.some.inj h)
      have hlx12 := (ix19 sz _ hj σ0 b0 (25 : Int32) a1 t12 e_q12).1
      exact hp_callQv (As := [.int 25, .int a1]) (rest := []) cx hw hno ((ix19 _ _ hj σ0 b0 (25 : Int32) a1 t12 e_q12).2) (cwV 2 cx.2.2.2.2.2.1 (cd_giV cm_854 cm_855 cm_856 cm_663 cm_857) rfl rfl rfl hdc_X4_readAsking ⟨by (try dsimp only); omega, by (try dsimp only); omega⟩) (cd_atO hj (by decide) (by decide)) rfl rfl hl.1 rfl (Nat.le_of_ble_eq_true rfl) dX4_readAtom_114 ⟨by (try dsimp only); omega, by (try dsimp only); omega⟩ (by omega) (by omega)
    | inl p12 =>
      have hle12 := (in19 sz _ hj σ0 b0 (25 : Int32) a1 p12 e_q12).1
      have hM10013 : p.2.1 ≤ p12.2.2.1 ∧ p.2.2 ≤ p12.2.2.2 := hM13
      have h := cd_inl h
      refine hp_callVv (As := [.int 25, .int a1]) (rest := []) cx hw ((in19 _ _ hj σ0 b0 (25 : Int32) a1 p12 e_q12).2) (cwV 2 cx.2.2.2.2.2.1 (cd_giV cm_854 cm_855 cm_856 cm_663 cm_857) rfl rfl rfl hdc_X4_readAsking ⟨by (try dsimp only); omega, by (try dsimp only); omega⟩) (cd_atO hj (by decide) (by decide)) rfl rfl hl.1 rfl (Nat.le_of_ble_eq_true rfl) dX4_readAtom_114 ⟨by (try dsimp only); omega, by (try dsimp only); omega⟩ (fun u H locs hp hw => ?_)
      obtain ⟨ca, hj, rfl⟩ := hp
      refine W.widen (k := b0.1 - p12.2.2.1) (n := b0.2 - p12.2.2.2) (by omega) (by omega) ?_
      refine lv_goto (tgt := 134) cx.1 cx.2.1 dX4_readAtom_117 (by decide) ?_
      exact nomatch Option.some.inj h
  have h := md_in c7_227 h
  by_cases c7_228 : (cI σ0 328 0) = 228
  · refine lv_lookup (off := 113) (tgt := 120) cx.1 cx.2.1 dX4_readAtom_7 (by decide) (by rw [c7_228]; decide) (by decide) ?_
    have h := md_ip c7_228 h
    refine lv_aload_n cx.1 cx.2.1 dX4_readAtom_120 rfl (lv_at hl 0 rfl) ?_
    refine lv_bipush (v := 26) cx.1 cx.2.1 dX4_readAtom_121 (by decide) ?_
    refine lv_iload_n cx.1 cx.2.1 dX4_readAtom_123 rfl (lv_at hl 1 rfl) ?_
    obtain ⟨q14, e_q14, h⟩ := md_ob h
    obtain ⟨hm15, hn15, h⟩ := cd_cks h
    have hM15 : p.2.1 ≤ (Sum.elim (fun (p : Int32 × cd_S × cd_B) => p.2.2) (fun (t : cd_S × cd_B) => t.2) q14).1 ∧ p.2.2 ≤ (Sum.elim (fun (p : Int32 × cd_S × cd_B) => p.2.2) (fun (t : cd_S × cd_B) => t.2) q14).2 := ⟨hm15, hn15⟩
    cases q14 with
    | inr t14 =>
      obtain rfl : t14 = p := Sum.inr.inj (Option.some.inj h)
      have hlx14 := (ix19 sz _ hj σ0 b0 (26 : Int32) a1 t14 e_q14).1
      exact hp_callQv (As := [.int 26, .int a1]) (rest := []) cx hw hno ((ix19 _ _ hj σ0 b0 (26 : Int32) a1 t14 e_q14).2) (cwV 2 cx.2.2.2.2.2.1 (cd_giV cm_854 cm_855 cm_856 cm_663 cm_857) rfl rfl rfl hdc_X4_readAsking ⟨by (try dsimp only); omega, by (try dsimp only); omega⟩) (cd_atO hj (by decide) (by decide)) rfl rfl hl.1 rfl (Nat.le_of_ble_eq_true rfl) dX4_readAtom_124 ⟨by (try dsimp only); omega, by (try dsimp only); omega⟩ (by omega) (by omega)
    | inl p14 =>
      have hle14 := (in19 sz _ hj σ0 b0 (26 : Int32) a1 p14 e_q14).1
      have hM10015 : p.2.1 ≤ p14.2.2.1 ∧ p.2.2 ≤ p14.2.2.2 := hM15
      have h := cd_inl h
      refine hp_callVv (As := [.int 26, .int a1]) (rest := []) cx hw ((in19 _ _ hj σ0 b0 (26 : Int32) a1 p14 e_q14).2) (cwV 2 cx.2.2.2.2.2.1 (cd_giV cm_854 cm_855 cm_856 cm_663 cm_857) rfl rfl rfl hdc_X4_readAsking ⟨by (try dsimp only); omega, by (try dsimp only); omega⟩) (cd_atO hj (by decide) (by decide)) rfl rfl hl.1 rfl (Nat.le_of_ble_eq_true rfl) dX4_readAtom_124 ⟨by (try dsimp only); omega, by (try dsimp only); omega⟩ (fun u H locs hp hw => ?_)
      obtain ⟨ca, hj, rfl⟩ := hp
      refine W.widen (k := b0.1 - p14.2.2.1) (n := b0.2 - p14.2.2.2) (by omega) (by omega) ?_
      refine lv_goto (tgt := 134) cx.1 cx.2.1 dX4_readAtom_127 (by decide) ?_
      exact nomatch Option.some.inj h
  have h := md_in c7_228 h
  refine lv_lookup (off := 123) (tgt := 130) cx.1 cx.2.1 dX4_readAtom_7 (by decide) ((lv_osw c7_40 (by decide)).trans ((lv_osw c7_123 (by decide)).trans ((lv_osw c7_222 (by decide)).trans ((lv_osw c7_223 (by decide)).trans ((lv_osw c7_227 (by decide)).trans ((lv_osw c7_228 (by decide)).trans rfl)))))) (by decide) ?_
  refine lv_aload_n cx.1 cx.2.1 dX4_readAtom_130 rfl (lv_at hl 0 rfl) ?_
  obtain ⟨q16, e_q16, h⟩ := md_ob h
  obtain ⟨hm17, hn17, h⟩ := cd_cks h
  have hM17 : p.2.1 ≤ (Sum.elim (fun (p : Int32 × cd_S × cd_B) => p.2.2) (fun (t : cd_S × cd_B) => t.2) q16).1 ∧ p.2.2 ≤ (Sum.elim (fun (p : Int32 × cd_S × cd_B) => p.2.2) (fun (t : cd_S × cd_B) => t.2) q16).2 := ⟨hm17, hn17⟩
  cases q16 with
  | inr t16 =>
    obtain rfl : t16 = p := Sum.inr.inj (Option.some.inj h)
    have hlx16 := (kx_X4_readPlainAtom l D cA E sz ad _ hj oq sgq sgv hE hX n σ0 b0  t16 e_q16).1
    exact hp_callQv (As := []) (rest := []) cx hw hno ((kx_X4_readPlainAtom l D cA E _ ad _ hj oq sgq sgv hE hX n σ0 b0  t16 e_q16).2) (cwV 0 cx.2.2.2.2.2.1 (cd_giV cm_858 cm_859 cm_860 cm_663 cm_861) rfl rfl rfl hdc_X4_readPlainAtom ⟨by (try dsimp only); omega, by (try dsimp only); omega⟩) (cd_atO hj (by decide) (by decide)) rfl rfl hl.1 rfl (Nat.le_of_ble_eq_true rfl) dX4_readAtom_131 ⟨by (try dsimp only); omega, by (try dsimp only); omega⟩ (by omega) (by omega)
  | inl p16 =>
    have hle16 := (kc_X4_readPlainAtom l D cA E sz ad _ hj oq sgq sgv hE n σ0 b0  p16 e_q16).1
    have hM10017 : p.2.1 ≤ p16.2.2.1 ∧ p.2.2 ≤ p16.2.2.2 := hM17
    have h := cd_inl h
    refine hp_callVv (As := []) (rest := []) cx hw ((kc_X4_readPlainAtom l D cA E _ ad _ hj oq sgq sgv hE n σ0 b0  p16 e_q16).2) (cwV 0 cx.2.2.2.2.2.1 (cd_giV cm_858 cm_859 cm_860 cm_663 cm_861) rfl rfl rfl hdc_X4_readPlainAtom ⟨by (try dsimp only); omega, by (try dsimp only); omega⟩) (cd_atO hj (by decide) (by decide)) rfl rfl hl.1 rfl (Nat.le_of_ble_eq_true rfl) dX4_readAtom_131 ⟨by (try dsimp only); omega, by (try dsimp only); omega⟩ (fun u H locs hp hw => ?_)
    obtain ⟨ca, hj, rfl⟩ := hp
    refine W.widen (k := b0.1 - p16.2.2.1) (n := b0.2 - p16.2.2.2) (by omega) (by omega) ?_
    exact nomatch Option.some.inj h
