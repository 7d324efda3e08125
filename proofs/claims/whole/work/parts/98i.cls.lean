set_option maxHeartbeats 4000000 in
set_option maxRecDepth 100000 in
theorem kc_X4_readField (l : Launch) (D : va_G) (cA : Nat → ClassId) (E : hp_N) (sz : Nat) (ad : Nat → Nat → Nat) (ca0 : Nat → Nat) (hj : cd_inj ad ca0) (oq sgq sgv : Nat) (hE : cd_E E oq sgq sgv) (n : Nat) (σ0 : cd_S) (b0 : cd_B) (p : (Int32 × cd_S × cd_B)) (h : f_X4_readField n σ0 b0 = some (Sum.inl p)) : (p.2.2.1 ≤ b0.1 ∧ p.2.2.2 ≤ b0.2) ∧ Met l yX4_readField (Cond.code yX4_readField cX4_readField 1 none :: v_CLS) ({ frames := 15, cells := b0.1 - p.2.2.1, slots := b0.2 - p.2.2.2, locals := 264 }) (hp_Pc D vwCl (hp_Tl cA) E sz (cd_pic cA ad ca0 σ0) [.ref (ad 4 0)]) (hp_Qv D vwCl (hp_Tl cA) sz (cd_pic cA ad ca0 σ0) (fun u => ∃ ca1, cd_inj ad ca1 ∧ u = cd_pic cA ad ca1 p.2.1)) (b0.1 - p.2.2.1) (b0.2 - p.2.2.2) (hp_A (cd_pic cA ad ca0 σ0) sz) := by
  obtain ⟨hm0, hn0, h⟩ := cd_cks h
  have hM0 : p.2.2.1 ≤ b0.1 ∧ p.2.2.2 ≤ b0.2 := ⟨hm0, hn0⟩
  refine ⟨hM0, ?_⟩
  refine hp_ofW (cc := cX4_readField) (maxL := 1) (ret := none) (by decide) rfl (Nat.le_of_ble_eq_true rfl) ?_
  intro pp ee ss mm bb mt cd ls cx hsz hw hl
  have hl : lv_has ls 1 [(0, .ref (ad 4 0))] := hl
  refine W.widen (k := b0.1 - b0.1) (n := b0.2 - b0.2) (Nat.zero_le _) (Nat.zero_le _) ?_
  have J69 : ∀ (ca : Nat → Nat) (hj : cd_inj ad ca) (σ : cd_S) (b : cd_B) (H : Heap) (locs : List Loc) (ls : Array Slot), b.1 ≤ b0.1 → b.2 ≤ b0.2 → p.2.2.1 ≤ b.1 → p.2.2.2 ≤ b.2 → f_X4_readField_J69 n σ b = some (Sum.inl p) → hp_w D vwCl (hp_Tl cA) E (hp_A (cd_pic cA ad ca0 σ0) sz) ss H locs (cd_pic cA ad ca σ) → lv_has ls 1 [(0, .ref (ad 4 0))] → W pp l ee ({ frames := 15, cells := b0.1 - p.2.2.1, slots := b0.2 - p.2.2.2, locals := 264 }) ss mm [.ref (ad 4 0)].toArray bb mt cd H locs (b0.1 - b.1) (b0.2 - b.2) (MQ bb (hp_Qv D vwCl (hp_Tl cA) sz (cd_pic cA ad ca0 σ0) (fun u => ∃ ca1, cd_inj ad ca1 ∧ u = cd_pic cA ad ca1 p.2.1)) [.ref (ad 4 0)].toArray ss (b0.1 - p.2.2.1) (b0.2 - p.2.2.2) (hp_A (cd_pic cA ad ca0 σ0) sz)) (F0 mm 69 ls []) := by
    intro ca hj σ b H locs ls hb1 hb2 hf1 hf2 h hw hl
    refine lv_aload_n cx.1 cx.2.1 dX4_readField_69 rfl (lv_at hl 0 rfl) ?_
    refine cd_gO (o2 := 2) (e2 := 0) (o := 4) (k := 1) (f := 129) hj cx hw hic4 rfl ⟨by decide, rfl, by decide, rfl⟩ rfl (by decide) ⟨rfl, rfl⟩ (List.mem_cons_of_mem _ cm_722) dX4_readField_70 ?_
    refine lv_aload_n cx.1 cx.2.1 dX4_readField_73 rfl (lv_at hl 0 rfl) ?_
    refine cd_gI (o := 4) (k := 9) (f := 137) hj cx hw hic4 rfl ⟨by decide, rfl, by decide, rfl⟩ rfl (by decide) (List.mem_cons_of_mem _ cm_734) dX4_readField_74 ?_
    refine lv_aload_n cx.1 cx.2.1 dX4_readField_77 rfl (lv_at hl 0 rfl) ?_
    refine cd_gO (o2 := 10) (e2 := 0) (o := 4) (k := 0) (f := 128) hj cx hw hic4 rfl ⟨by decide, rfl, by decide, rfl⟩ rfl (by decide) ⟨rfl, rfl⟩ (List.mem_cons_of_mem _ cm_658) dX4_readField_78 ?_
    refine cd_gJ (o := 10) (k := 10) (f := 330) hj cx hw hic10 rfl ⟨by decide, rfl, by decide, rfl⟩ rfl (by decide) (List.mem_cons_of_mem _ cm_695) dX4_readField_81 ?_
    obtain ⟨p1, e_p1, h⟩ := md_ob h
    refine hp_callVv (As := [.int (cI σ 137 0), .long (cJ σ 330 0)]) (rest := []) cx hw (kc_X2_addField l D cA E _ ad _ hj oq sgq sgv hE n σ ((cI σ 137 0)) ((cJ σ 330 0)) p1 e_p1) (cwV 2 cx.2.2.2.2.2.1 (cd_giV cm_740 cm_741 cm_742 cm_167 cm_743) rfl rfl rfl hdc_X2_addField ⟨Nat.le_of_ble_eq_true rfl, Nat.le_of_ble_eq_true rfl⟩) (cd_atO hj (by decide) (by decide)) rfl rfl hl.1 rfl (Nat.le_of_ble_eq_true rfl) dX4_readField_84 ⟨by (try dsimp only); omega, by (try dsimp only); omega⟩ (fun u H locs hp hw => ?_)
    obtain ⟨ca, hj, rfl⟩ := hp
    refine lv_aload_n cx.1 cx.2.1 dX4_readField_87 rfl (lv_at hl 0 rfl) ?_
    refine cd_gO (o2 := 10) (e2 := 0) (o := 4) (k := 0) (f := 128) hj cx hw hic4 rfl ⟨by decide, rfl, by decide, rfl⟩ rfl (by decide) ⟨rfl, rfl⟩ (List.mem_cons_of_mem _ cm_658) dX4_readField_88 ?_
    obtain ⟨p2, e_p2, h⟩ := md_ob h
    refine hp_callVv (As := []) (rest := []) cx hw (kc_X10_advance l D cA E _ ad _ hj oq sgq sgv hE n p1.2  p2 e_p2) (cwV 0 cx.2.2.2.2.2.1 (cd_giV cm_670 cm_671 cm_672 cm_301 cm_673) rfl rfl rfl hdc_X10_advance ⟨Nat.le_of_ble_eq_true rfl, Nat.le_of_ble_eq_true rfl⟩) (cd_atO hj (by decide) (by decide)) rfl rfl hl.1 rfl (Nat.le_of_ble_eq_true rfl) dX4_readField_91 ⟨by (try dsimp only); omega, by (try dsimp only); omega⟩ (fun u H locs hp hw => ?_)
    obtain ⟨ca, hj, rfl⟩ := hp
    refine lv_aload_n cx.1 cx.2.1 dX4_readField_94 rfl (lv_at hl 0 rfl) ?_
    refine lv_bipush (v := 59) cx.1 cx.2.1 dX4_readField_95 (by decide) ?_
    obtain ⟨q3, e_q3, h⟩ := md_ob h
    obtain ⟨hm4, hn4, h⟩ := cd_cks h
    have hM4 : p.2.2.1 ≤ (Sum.elim (fun (p : Int32 × cd_S × cd_B) => p.2.2) (fun (t : cd_S × cd_B) => t.2) q3).1 ∧ p.2.2.2 ≤ (Sum.elim (fun (p : Int32 × cd_S × cd_B) => p.2.2) (fun (t : cd_S × cd_B) => t.2) q3).2 := ⟨hm4, hn4⟩
    cases q3 with
    | inr t3 =>
      exact nomatch Option.some.inj h
    | inl p3 =>
      have hle3 := (kc_X4_pass l D cA E sz ad _ hj oq sgq sgv hE n p2.2 b (59 : Int32) p3 e_q3).1
      have hM10004 : p.2.2.1 ≤ p3.2.2.1 ∧ p.2.2.2 ≤ p3.2.2.2 := hM4
      have h := cd_inl h
      refine hp_callVv (As := [.int 59]) (rest := []) cx hw ((kc_X4_pass l D cA E _ ad _ hj oq sgq sgv hE n p2.2 b (59 : Int32) p3 e_q3).2) (cwV 1 cx.2.2.2.2.2.1 (cd_giV cm_714 cm_715 cm_716 cm_663 cm_717) rfl rfl rfl hdc_X4_pass ⟨Nat.le_of_ble_eq_true rfl, Nat.le_of_ble_eq_true rfl⟩) (cd_atO hj (by decide) (by decide)) rfl rfl hl.1 rfl (Nat.le_of_ble_eq_true rfl) dX4_readField_97 ⟨by (try dsimp only); omega, by (try dsimp only); omega⟩ (fun u H locs hp hw => ?_)
      obtain ⟨ca, hj, rfl⟩ := hp
      refine W.widen (k := b0.1 - p3.2.2.1) (n := b0.2 - p3.2.2.2) (by omega) (by omega) ?_
      exact hp_vret cx hw ((cd_retb hj (congrArg some (Sum.inl.inj (Option.some.inj h)))).2) dX4_readField_100 (cd_le1 (congrArg some (Sum.inl.inj (Option.some.inj h)))) (cd_le2 (congrArg some (Sum.inl.inj (Option.some.inj h))))
  have J32 : ∀ (ca : Nat → Nat) (hj : cd_inj ad ca) (σ : cd_S) (b : cd_B) (t0 : Int32) (H : Heap) (locs : List Loc) (ls : Array Slot), b.1 ≤ b0.1 → b.2 ≤ b0.2 → p.2.2.1 ≤ b.1 → p.2.2.2 ≤ b.2 → f_X4_readField_J32 n σ b t0 = some (Sum.inl p) → hp_w D vwCl (hp_Tl cA) E (hp_A (cd_pic cA ad ca0 σ0) sz) ss H locs (cd_pic cA ad ca σ) → lv_has ls 1 [(0, .ref (ad 4 0))] → W pp l ee ({ frames := 15, cells := b0.1 - p.2.2.1, slots := b0.2 - p.2.2.2, locals := 264 }) ss mm [.ref (ad 4 0)].toArray bb mt cd H locs (b0.1 - b.1) (b0.2 - b.2) (MQ bb (hp_Qv D vwCl (hp_Tl cA) sz (cd_pic cA ad ca0 σ0) (fun u => ∃ ca1, cd_inj ad ca1 ∧ u = cd_pic cA ad ca1 p.2.1)) [.ref (ad 4 0)].toArray ss (b0.1 - p.2.2.1) (b0.2 - p.2.2.2) (hp_A (cd_pic cA ad ca0 σ0) sz)) (F0 mm 32 ls [.int t0, .ref (ad 4 0)]) := by
    intro ca hj σ b t0 H locs ls hb1 hb2 hf1 hf2 h hw hl
    obtain ⟨q5, e_q5, h⟩ := md_ob h
    obtain ⟨hm6, hn6, h⟩ := cd_cks h
    have hM6 : p.2.2.1 ≤ (Sum.elim (fun (p : Int32 × cd_S × cd_B) => p.2.2) (fun (t : cd_S × cd_B) => t.2) q5).1 ∧ p.2.2.2 ≤ (Sum.elim (fun (p : Int32 × cd_S × cd_B) => p.2.2) (fun (t : cd_S × cd_B) => t.2) q5).2 := ⟨hm6, hn6⟩
    cases q5 with
    | inr t5 =>
      exact nomatch Option.some.inj h
    | inl p5 =>
      have hle5 := (kc_X4_room l D cA E sz ad _ hj oq sgq sgv hE n σ b t0 p5 e_q5).1
      have hM10006 : p.2.2.1 ≤ p5.2.2.1 ∧ p.2.2.2 ≤ p5.2.2.2 := hM6
      have h := cd_inl h
      refine hp_callVv (As := [.int t0]) (rest := []) cx hw ((kc_X4_room l D cA E _ ad _ hj oq sgq sgv hE n σ b t0 p5 e_q5).2) (cwV 1 cx.2.2.2.2.2.1 (cd_giV cm_691 cm_692 cm_693 cm_663 cm_694) rfl rfl rfl hdc_X4_room ⟨Nat.le_of_ble_eq_true rfl, Nat.le_of_ble_eq_true rfl⟩) (cd_atO hj (by decide) (by decide)) rfl rfl hl.1 rfl (Nat.le_of_ble_eq_true rfl) dX4_readField_32 ⟨by (try dsimp only); omega, by (try dsimp only); omega⟩ (fun u H locs hp hw => ?_)
      obtain ⟨ca, hj, rfl⟩ := hp
      refine W.widen (k := b0.1 - p5.2.2.1) (n := b0.2 - p5.2.2.2) (by omega) (by omega) ?_
      refine lv_aload_n cx.1 cx.2.1 dX4_readField_35 rfl (lv_at hl 0 rfl) ?_
      refine cd_gO (o2 := 2) (e2 := 0) (o := 4) (k := 1) (f := 129) hj cx hw hic4 rfl ⟨by decide, rfl, by decide, rfl⟩ rfl (by decide) ⟨rfl, rfl⟩ (List.mem_cons_of_mem _ cm_722) dX4_readField_36 ?_
      refine lv_aload_n cx.1 cx.2.1 dX4_readField_39 rfl (lv_at hl 0 rfl) ?_
      refine cd_gI (o := 4) (k := 9) (f := 137) hj cx hw hic4 rfl ⟨by decide, rfl, by decide, rfl⟩ rfl (by decide) (List.mem_cons_of_mem _ cm_734) dX4_readField_40 ?_
      refine lv_aload_n cx.1 cx.2.1 dX4_readField_43 rfl (lv_at hl 0 rfl) ?_
      refine cd_gO (o2 := 10) (e2 := 0) (o := 4) (k := 0) (f := 128) hj cx hw hic4 rfl ⟨by decide, rfl, by decide, rfl⟩ rfl (by decide) ⟨rfl, rfl⟩ (List.mem_cons_of_mem _ cm_658) dX4_readField_44 ?_
      refine cd_gJ (o := 10) (k := 10) (f := 330) hj cx hw hic10 rfl ⟨by decide, rfl, by decide, rfl⟩ rfl (by decide) (List.mem_cons_of_mem _ cm_695) dX4_readField_47 ?_
      obtain ⟨p7, e_p7, h⟩ := md_ob h
      refine hp_callVi (As := [.int (cI p5.2.1 137 0), .long (cJ p5.2.1 330 0)]) (rest := []) cx hw (kc_X2_fieldSlot l D cA E _ ad _ hj oq sgq sgv hE n p5.2.1 ((cI p5.2.1 137 0)) ((cJ p5.2.1 330 0)) p7 e_p7) (cwV 2 cx.2.2.2.2.2.1 (cd_giV cm_739 cm_389 cm_390 cm_167 cm_391) rfl rfl rfl hdc_X2_fieldSlot ⟨Nat.le_of_ble_eq_true rfl, Nat.le_of_ble_eq_true rfl⟩) (cd_atO hj (by decide) (by decide)) rfl rfl hl.1 rfl (Nat.le_of_ble_eq_true rfl) dX4_readField_50 ⟨by (try dsimp only); omega, by (try dsimp only); omega⟩ (fun r u H locs hp hw => ?_)
      obtain ⟨rfl, ca, hj, rfl⟩ := hp
      refine lv_iconst (v := (-1)) cx.1 cx.2.1 dX4_readField_53 (by decide) ?_
      refine lv_icmp_eq (tgt := 69) cx.1 cx.2.1 dX4_readField_54 (by decide) (fun c54 => ?_) (fun c54 => ?_)
      · have h := md_ip c54 h
        exact J69 _ hj p7.2 (p5.2.2) _ _ _ (by omega) (by omega) (by omega) (by omega) h hw (lv_sub hl [0] rfl)
      · have h := md_in c54 h
        refine lv_aload_n cx.1 cx.2.1 dX4_readField_57 rfl (lv_at hl 0 rfl) ?_
        refine lv_iconst (v := 2) cx.1 cx.2.1 dX4_readField_58 (by decide) ?_
        refine lv_aload_n cx.1 cx.2.1 dX4_readField_59 rfl (lv_at hl 0 rfl) ?_
        refine cd_gO (o2 := 10) (e2 := 0) (o := 4) (k := 0) (f := 128) hj cx hw hic4 rfl ⟨by decide, rfl, by decide, rfl⟩ rfl (by decide) ⟨rfl, rfl⟩ (List.mem_cons_of_mem _ cm_658) dX4_readField_60 ?_
        refine cd_gI (o := 10) (k := 9) (f := 329) hj cx hw hic10 rfl ⟨by decide, rfl, by decide, rfl⟩ rfl (by decide) (List.mem_cons_of_mem _ cm_659) dX4_readField_63 ?_
        obtain ⟨q8, e_q8, h⟩ := md_ob h
        obtain ⟨hm9, hn9, h⟩ := cd_cks h
        have hM9 : p.2.2.1 ≤ (Sum.elim (fun (p : Int32 × cd_S × cd_B) => p.2.2) (fun (t : cd_S × cd_B) => t.2) q8).1 ∧ p.2.2.2 ≤ (Sum.elim (fun (p : Int32 × cd_S × cd_B) => p.2.2) (fun (t : cd_S × cd_B) => t.2) q8).2 := ⟨hm9, hn9⟩
        cases q8 with
        | inr t8 =>
          exact nomatch Option.some.inj h
        | inl p8 =>
          have hle8 := (kc_X4_refuse l D cA E sz ad _ hj oq sgq sgv hE n p7.2 (p5.2.2) (2 : Int32) ((cI p7.2 329 0)) p8 e_q8).1
          have hM10009 : p.2.2.1 ≤ p8.2.2.1 ∧ p.2.2.2 ≤ p8.2.2.2 := hM9
          have h := cd_inl h
          refine hp_callVv (As := [.int 2, .int (cI p7.2 329 0)]) (rest := []) cx hw ((kc_X4_refuse l D cA E _ ad _ hj oq sgq sgv hE n p7.2 (p5.2.2) (2 : Int32) ((cI p7.2 329 0)) p8 e_q8).2) (cwV 2 cx.2.2.2.2.2.1 (cd_giV cm_660 cm_661 cm_662 cm_663 cm_664) rfl rfl rfl hdc_X4_refuse ⟨Nat.le_of_ble_eq_true rfl, Nat.le_of_ble_eq_true rfl⟩) (cd_atO hj (by decide) (by decide)) rfl rfl hl.1 rfl (Nat.le_of_ble_eq_true rfl) dX4_readField_66 ⟨by (try dsimp only); omega, by (try dsimp only); omega⟩ (fun u H locs hp hw => ?_)
          obtain ⟨ca, hj, rfl⟩ := hp
          refine W.widen (k := b0.1 - p8.2.2.1) (n := b0.2 - p8.2.2.2) (by omega) (by omega) ?_
          exact J69 _ hj p8.2.1 (p8.2.2) _ _ _ (by omega) (by omega) (by omega) (by omega) h hw (lv_sub hl [0] rfl)
  refine lv_aload_n cx.1 cx.2.1 dX4_readField_0 rfl (lv_at hl 0 rfl) ?_
  refine cd_gO (o2 := 10) (e2 := 0) (o := 4) (k := 0) (f := 128) hj cx hw hic4 rfl ⟨by decide, rfl, by decide, rfl⟩ rfl (by decide) ⟨rfl, rfl⟩ (List.mem_cons_of_mem _ cm_658) dX4_readField_1 ?_
  obtain ⟨p10, e_p10, h⟩ := md_ob h
  refine hp_callVv (As := []) (rest := []) cx hw (kc_X10_advance l D cA E _ ad _ hj oq sgq sgv hE n σ0  p10 e_p10) (cwV 0 cx.2.2.2.2.2.1 (cd_giV cm_670 cm_671 cm_672 cm_301 cm_673) rfl rfl rfl hdc_X10_advance ⟨Nat.le_of_ble_eq_true rfl, Nat.le_of_ble_eq_true rfl⟩) (cd_atO hj (by decide) (by decide)) rfl rfl hl.1 rfl (Nat.le_of_ble_eq_true rfl) dX4_readField_4 ⟨by (try dsimp only); omega, by (try dsimp only); omega⟩ (fun u H locs hp hw => ?_)
  obtain ⟨ca, hj, rfl⟩ := hp
  refine lv_aload_n cx.1 cx.2.1 dX4_readField_7 rfl (lv_at hl 0 rfl) ?_
  obtain ⟨q11, e_q11, h⟩ := md_ob h
  obtain ⟨hm12, hn12, h⟩ := cd_cks h
  have hM12 : p.2.2.1 ≤ (Sum.elim (fun (p : Int32 × cd_S × cd_B) => p.2.2) (fun (t : cd_S × cd_B) => t.2) q11).1 ∧ p.2.2.2 ≤ (Sum.elim (fun (p : Int32 × cd_S × cd_B) => p.2.2) (fun (t : cd_S × cd_B) => t.2) q11).2 := ⟨hm12, hn12⟩
  cases q11 with
  | inr t11 =>
    exact nomatch Option.some.inj h
  | inl p11 =>
    have hle11 := (kc_X4_needName l D cA E sz ad _ hj oq sgq sgv hE n p10.2 b0  p11 e_q11).1
    have hM10012 : p.2.2.1 ≤ p11.2.2.1 ∧ p.2.2.2 ≤ p11.2.2.2 := hM12
    have h := cd_inl h
    refine hp_callVv (As := []) (rest := []) cx hw ((kc_X4_needName l D cA E _ ad _ hj oq sgq sgv hE n p10.2 b0  p11 e_q11).2) (cwV 0 cx.2.2.2.2.2.1 (cd_giV cm_687 cm_688 cm_689 cm_663 cm_690) rfl rfl rfl hdc_X4_needName ⟨Nat.le_of_ble_eq_true rfl, Nat.le_of_ble_eq_true rfl⟩) (cd_atO hj (by decide) (by decide)) rfl rfl hl.1 rfl (Nat.le_of_ble_eq_true rfl) dX4_readField_8 ⟨by (try dsimp only); omega, by (try dsimp only); omega⟩ (fun u H locs hp hw => ?_)
    obtain ⟨ca, hj, rfl⟩ := hp
    refine W.widen (k := b0.1 - p11.2.2.1) (n := b0.2 - p11.2.2.2) (by omega) (by omega) ?_
    refine lv_aload_n cx.1 cx.2.1 dX4_readField_11 rfl (lv_at hl 0 rfl) ?_
    refine lv_aload_n cx.1 cx.2.1 dX4_readField_12 rfl (lv_at hl 0 rfl) ?_
    refine cd_gO (o2 := 2) (e2 := 0) (o := 4) (k := 1) (f := 129) hj cx hw hic4 rfl ⟨by decide, rfl, by decide, rfl⟩ rfl (by decide) ⟨rfl, rfl⟩ (List.mem_cons_of_mem _ cm_722) dX4_readField_13 ?_
    refine lv_aload_n cx.1 cx.2.1 dX4_readField_16 rfl (lv_at hl 0 rfl) ?_
    refine cd_gI (o := 4) (k := 9) (f := 137) hj cx hw hic4 rfl ⟨by decide, rfl, by decide, rfl⟩ rfl (by decide) (List.mem_cons_of_mem _ cm_734) dX4_readField_17 ?_
    obtain ⟨p13, e_p13, h⟩ := md_ob h
    refine hp_callVi (As := [.int (cI p11.2.1 137 0)]) (rest := [.ref (ad 4 0)]) cx hw (kc_X2_fieldCount l D cA E _ ad _ hj oq sgq sgv hE n p11.2.1 ((cI p11.2.1 137 0)) p13 e_p13) (cwV 1 cx.2.2.2.2.2.1 (cd_giV cm_735 cm_736 cm_737 cm_167 cm_738) rfl rfl rfl hdc_X2_fieldCount ⟨Nat.le_of_ble_eq_true rfl, Nat.le_of_ble_eq_true rfl⟩) (cd_atO hj (by decide) (by decide)) rfl rfl hl.1 rfl (Nat.le_of_ble_eq_true rfl) dX4_readField_20 ⟨by (try dsimp only); omega, by (try dsimp only); omega⟩ (fun r u H locs hp hw => ?_)
    obtain ⟨rfl, ca, hj, rfl⟩ := hp
    refine lv_iconst (v := 4) cx.1 cx.2.1 dX4_readField_23 (by decide) ?_
    refine lv_icmp_ge (tgt := 31) cx.1 cx.2.1 dX4_readField_24 (by decide) (fun c24 => ?_) (fun c24 => ?_)
    · have h := md_ip c24 h
      refine lv_iconst (v := 0) cx.1 cx.2.1 dX4_readField_31 (by decide) ?_
      exact J32 _ hj p13.2 (p11.2.2) 0 _ _ _ (by omega) (by omega) (by omega) (by omega) h hw (lv_sub hl [0] rfl)
    · have h := md_in c24 h
      refine lv_iconst (v := 1) cx.1 cx.2.1 dX4_readField_27 (by decide) ?_
      refine lv_goto (tgt := 32) cx.1 cx.2.1 dX4_readField_28 (by decide) ?_
      exact J32 _ hj p13.2 (p11.2.2) 1 _ _ _ (by omega) (by omega) (by omega) (by omega) h hw (lv_sub hl [0] rfl)
set_option maxHeartbeats 4000000 in
set_option maxRecDepth 100000 in
theorem kc_X4_openUnit (l : Launch) (D : va_G) (cA : Nat → ClassId) (E : hp_N) (sz : Nat) (ad : Nat → Nat → Nat) (ca0 : Nat → Nat) (hj : cd_inj ad ca0) (oq sgq sgv : Nat) (hE : cd_E E oq sgq sgv) (n : Nat) (σ0 : cd_S) (b0 : cd_B) (a1 : Int32) (p : (Nat × cd_S × cd_B)) (h : f_X4_openUnit n σ0 b0 a1 = some (Sum.inl p)) : (p.2.2.1 ≤ b0.1 ∧ p.2.2.2 ≤ b0.2) ∧ Met l yX4_openUnit (Cond.code yX4_openUnit cX4_openUnit 3 (some (.object "WardenHouse$Unit")) :: v_CLS) ({ frames := 14, cells := b0.1 - p.2.2.1, slots := b0.2 - p.2.2.2, locals := 243 }) (hp_Pc D vwCl (hp_Tl cA) E sz (cd_pic cA ad ca0 σ0) [.ref (ad 4 0), .int a1]) (hp_Qr D vwCl (hp_Tl cA) sz (cd_pic cA ad ca0 σ0) (fun r u => (p.1 < 60 ∧ r = ad 9 p.1) ∧ ∃ ca1, cd_inj ad ca1 ∧ u = cd_pic cA ad ca1 p.2.1)) (b0.1 - p.2.2.1) (b0.2 - p.2.2.2) (hp_A (cd_pic cA ad ca0 σ0) sz) := by
  obtain ⟨hm0, hn0, h⟩ := cd_cks h
  have hM0 : p.2.2.1 ≤ b0.1 ∧ p.2.2.2 ≤ b0.2 := ⟨hm0, hn0⟩
  refine ⟨hM0, ?_⟩
  refine hp_ofW (cc := cX4_openUnit) (maxL := 3) (ret := (some (.object "WardenHouse$Unit"))) (by decide) rfl (Nat.le_of_ble_eq_true rfl) ?_
  intro pp ee ss mm bb mt cd ls cx hsz hw hl
  have hl : lv_has ls 3 [(0, .ref (ad 4 0)), (1, .int a1)] := hl
  refine W.widen (k := b0.1 - b0.1) (n := b0.2 - b0.2) (Nat.zero_le _) (Nat.zero_le _) ?_
  have J60 : ∀ (ca : Nat → Nat) (hj : cd_inj ad ca) (σ : cd_S) (b : cd_B) (l2 : Nat) (t0 : Int32) (t1 : Nat) (H : Heap) (locs : List Loc) (ls : Array Slot), l2 < 60 → t1 < 60 → b.1 ≤ b0.1 → b.2 ≤ b0.2 → p.2.2.1 ≤ b.1 → p.2.2.2 ≤ b.2 → f_X4_openUnit_J60 n σ b l2 t0 t1 = some (Sum.inl p) → hp_w D vwCl (hp_Tl cA) E (hp_A (cd_pic cA ad ca0 σ0) sz) ss H locs (cd_pic cA ad ca σ) → lv_has ls 3 [(2, .ref (ad 9 l2))] → W pp l ee ({ frames := 14, cells := b0.1 - p.2.2.1, slots := b0.2 - p.2.2.2, locals := 243 }) ss mm [.ref (ad 4 0), .int a1].toArray bb mt cd H locs (b0.1 - b.1) (b0.2 - b.2) (MQ bb (hp_Qr D vwCl (hp_Tl cA) sz (cd_pic cA ad ca0 σ0) (fun r u => (p.1 < 60 ∧ r = ad 9 p.1) ∧ ∃ ca1, cd_inj ad ca1 ∧ u = cd_pic cA ad ca1 p.2.1)) [.ref (ad 4 0), .int a1].toArray ss (b0.1 - p.2.2.1) (b0.2 - p.2.2.2) (hp_A (cd_pic cA ad ca0 σ0) sz)) (F0 mm 60 ls [.int t0, .ref (ad 9 t1)]) := by
    intro ca hj σ b l2 t0 t1 H locs ls hb_l2 hb_t1 hb1 hb2 hf1 hf2 h hw hl
    obtain ⟨σ1, e_σ1, h⟩ := md_ob h
    refine cd_pI (o := 9) (k := 7) (f := 295) hj cx hw hic9 rfl ⟨by decide, rfl, by decide, rfl⟩ tyX9_ok nmX9 rfl (show _ < 60 by omega) rfl (List.mem_cons_of_mem _ cm_751) rfl e_σ1 dX4_openUnit_60 (fun H locs hw => ?_)
    refine lv_aload_n cx.1 cx.2.1 dX4_openUnit_63 rfl (lv_at hl 0 rfl) ?_
    exact hp_aret cx hw (cd_ra (cd_retb hj (congrArg some (Sum.inl.inj (Option.some.inj h)))) (by omega)) (Or.inl ⟨_, rfl⟩) dX4_openUnit_64 (cd_le1 (congrArg some (Sum.inl.inj (Option.some.inj h)))) (cd_le2 (congrArg some (Sum.inl.inj (Option.some.inj h))))
  have J18 : ∀ (ca : Nat → Nat) (hj : cd_inj ad ca) (σ : cd_S) (b : cd_B) (l1 : Int32) (t0 : Int32) (H : Heap) (locs : List Loc) (ls : Array Slot), b.1 ≤ b0.1 → b.2 ≤ b0.2 → p.2.2.1 ≤ b.1 → p.2.2.2 ≤ b.2 → f_X4_openUnit_J18 n σ b l1 t0 = some (Sum.inl p) → hp_w D vwCl (hp_Tl cA) E (hp_A (cd_pic cA ad ca0 σ0) sz) ss H locs (cd_pic cA ad ca σ) → lv_has ls 3 [(0, .ref (ad 4 0)), (1, .int l1)] → W pp l ee ({ frames := 14, cells := b0.1 - p.2.2.1, slots := b0.2 - p.2.2.2, locals := 243 }) ss mm [.ref (ad 4 0), .int a1].toArray bb mt cd H locs (b0.1 - b.1) (b0.2 - b.2) (MQ bb (hp_Qr D vwCl (hp_Tl cA) sz (cd_pic cA ad ca0 σ0) (fun r u => (p.1 < 60 ∧ r = ad 9 p.1) ∧ ∃ ca1, cd_inj ad ca1 ∧ u = cd_pic cA ad ca1 p.2.1)) [.ref (ad 4 0), .int a1].toArray ss (b0.1 - p.2.2.1) (b0.2 - p.2.2.2) (hp_A (cd_pic cA ad ca0 σ0) sz)) (F0 mm 18 ls [.int t0, .ref (ad 4 0)]) := by
    intro ca hj σ b l1 t0 H locs ls hb1 hb2 hf1 hf2 h hw hl
    obtain ⟨q2, e_q2, h⟩ := md_ob h
    obtain ⟨hm3, hn3, h⟩ := cd_cks h
    have hM3 : p.2.2.1 ≤ (Sum.elim (fun (p : Int32 × cd_S × cd_B) => p.2.2) (fun (t : cd_S × cd_B) => t.2) q2).1 ∧ p.2.2.2 ≤ (Sum.elim (fun (p : Int32 × cd_S × cd_B) => p.2.2) (fun (t : cd_S × cd_B) => t.2) q2).2 := ⟨hm3, hn3⟩
    cases q2 with
    | inr t2 =>
      exact nomatch Option.some.inj h
    | inl p2 =>
      have hle2 := (kc_X4_room l D cA E sz ad _ hj oq sgq sgv hE n σ b t0 p2 e_q2).1
      have hM10003 : p.2.2.1 ≤ p2.2.2.1 ∧ p.2.2.2 ≤ p2.2.2.2 := hM3
      have h := cd_inl h
      refine hp_callVv (As := [.int t0]) (rest := []) cx hw ((kc_X4_room l D cA E _ ad _ hj oq sgq sgv hE n σ b t0 p2 e_q2).2) (cwV 1 cx.2.2.2.2.2.1 (cd_giV cm_691 cm_692 cm_693 cm_663 cm_694) rfl rfl rfl hdc_X4_room ⟨Nat.le_of_ble_eq_true rfl, Nat.le_of_ble_eq_true rfl⟩) (cd_atO hj (by decide) (by decide)) rfl rfl hl.1 rfl (Nat.le_of_ble_eq_true rfl) dX4_openUnit_18 ⟨by (try dsimp only); omega, by (try dsimp only); omega⟩ (fun u H locs hp hw => ?_)
      obtain ⟨ca, hj, rfl⟩ := hp
      refine W.widen (k := b0.1 - p2.2.2.1) (n := b0.2 - p2.2.2.2) (by omega) (by omega) ?_
      refine lv_aload_n cx.1 cx.2.1 dX4_openUnit_21 rfl (lv_at hl 0 rfl) ?_
      refine cd_gO (o2 := 2) (e2 := 0) (o := 4) (k := 1) (f := 129) hj cx hw hic4 rfl ⟨by decide, rfl, by decide, rfl⟩ rfl (by decide) ⟨rfl, rfl⟩ (List.mem_cons_of_mem _ cm_722) dX4_openUnit_22 ?_
      refine lv_iload_n cx.1 cx.2.1 dX4_openUnit_25 rfl (lv_at hl 1 rfl) ?_
      refine lv_aload_n cx.1 cx.2.1 dX4_openUnit_26 rfl (lv_at hl 0 rfl) ?_
      refine cd_gI (o := 4) (k := 9) (f := 137) hj cx hw hic4 rfl ⟨by decide, rfl, by decide, rfl⟩ rfl (by decide) (List.mem_cons_of_mem _ cm_734) dX4_openUnit_27 ?_
      refine lv_aload_n cx.1 cx.2.1 dX4_openUnit_30 rfl (lv_at hl 0 rfl) ?_
      refine cd_gO (o2 := 10) (e2 := 0) (o := 4) (k := 0) (f := 128) hj cx hw hic4 rfl ⟨by decide, rfl, by decide, rfl⟩ rfl (by decide) ⟨rfl, rfl⟩ (List.mem_cons_of_mem _ cm_658) dX4_openUnit_31 ?_
      refine cd_gI (o := 10) (k := 9) (f := 329) hj cx hw hic10 rfl ⟨by decide, rfl, by decide, rfl⟩ rfl (by decide) (List.mem_cons_of_mem _ cm_659) dX4_openUnit_34 ?_
      obtain ⟨p4, e_p4, h⟩ := md_ob h
      refine hp_callVr (As := [.int l1, .int (cI p2.2.1 137 0), .int (cI p2.2.1 329 0)]) (rest := []) cx hw (kc_X2_addUnit l D cA E _ ad _ hj oq sgq sgv hE n p2.2.1 l1 ((cI p2.2.1 137 0)) ((cI p2.2.1 329 0)) p4 e_p4) (cwV 3 cx.2.2.2.2.2.1 (cd_giV cm_745 cm_746 cm_747 cm_167 cm_748) rfl rfl rfl hdc_X2_addUnit ⟨Nat.le_of_ble_eq_true rfl, Nat.le_of_ble_eq_true rfl⟩) (cd_atO hj (by decide) (by decide)) rfl rfl hl.1 rfl (Nat.le_of_ble_eq_true rfl) dX4_openUnit_37 ⟨by (try dsimp only); omega, by (try dsimp only); omega⟩ (fun r u H locs hp hw => ?_)
      obtain ⟨⟨hb_p4, rfl⟩, ca, hj, rfl⟩ := hp
      refine lv_astore_n (lv' := [(2, .ref (ad 9 p4.1)), (0, .ref (ad 4 0)), (1, .int l1)]) cx.1 cx.2.1 dX4_openUnit_40 rfl hl (by decide) rfl (fun ls hl => ?_)
      refine lv_aload_n cx.1 cx.2.1 dX4_openUnit_41 rfl (lv_at hl 0 rfl) ?_
      refine lv_iload_n cx.1 cx.2.1 dX4_openUnit_42 rfl (lv_at hl 2 rfl) ?_
      refine lv_if_ne (tgt := 53) cx.1 cx.2.1 dX4_openUnit_43 (by decide) (fun c43 => ?_) (fun c43 => ?_)
      · have h := md_in c43 h
        refine lv_aload_n cx.1 cx.2.1 dX4_openUnit_53 rfl (lv_at hl 1 rfl) ?_
        obtain ⟨u5, e_u5, h⟩ := md_ob h
        have hb_u5 : u5 < 60 := (cd_dps e_u5).2
        refine cd_gP (o2 := 9) (u := u5) (o := 4) (k := 8) (f := 136) hj cx hw hic4 rfl ⟨by decide, rfl, by decide, rfl⟩ rfl (by decide) rfl e_u5 (List.mem_cons_of_mem _ cm_749) dX4_openUnit_54 ?_
        refine cd_gI (o := 9) (k := 0) (f := 288) hj cx hw hic9 rfl ⟨by decide, rfl, by decide, rfl⟩ rfl (show _ < 60 by omega) (List.mem_cons_of_mem _ cm_750) dX4_openUnit_57 ?_
        exact J60 _ hj p4.2 (p2.2.2) (p4.1) ((cI p4.2 288 u5)) (p4.1) _ _ _ (by omega) (by omega) (by omega) (by omega) (by omega) (by omega) h hw (lv_sub hl [0] rfl)
      · have h := md_ip c43 h
        refine lv_aload_n cx.1 cx.2.1 dX4_openUnit_46 rfl (lv_at hl 0 rfl) ?_
        refine cd_gI (o := 9) (k := 0) (f := 288) hj cx hw hic9 rfl ⟨by decide, rfl, by decide, rfl⟩ rfl (show _ < 60 by omega) (List.mem_cons_of_mem _ cm_750) dX4_openUnit_47 ?_
        refine lv_goto (tgt := 60) cx.1 cx.2.1 dX4_openUnit_50 (by decide) ?_
        exact J60 _ hj p4.2 (p2.2.2) (p4.1) ((cI p4.2 288 (p4.1))) (p4.1) _ _ _ (by omega) (by omega) (by omega) (by omega) (by omega) (by omega) h hw (lv_sub hl [0] rfl)
  refine lv_aload_n cx.1 cx.2.1 dX4_openUnit_0 rfl (lv_at hl 0 rfl) ?_
  refine lv_aload_n cx.1 cx.2.1 dX4_openUnit_1 rfl (lv_at hl 0 rfl) ?_
  refine cd_gO (o2 := 2) (e2 := 0) (o := 4) (k := 1) (f := 129) hj cx hw hic4 rfl ⟨by decide, rfl, by decide, rfl⟩ rfl (by decide) ⟨rfl, rfl⟩ (List.mem_cons_of_mem _ cm_722) dX4_openUnit_2 ?_
  refine cd_gI (o := 2) (k := 2) (f := 66) hj cx hw hic2 rfl ⟨by decide, rfl, by decide, rfl⟩ rfl (by decide) (List.mem_cons_of_mem _ cm_744) dX4_openUnit_5 ?_
  refine lv_bipush (v := 60) cx.1 cx.2.1 dX4_openUnit_8 (by decide) ?_
  refine lv_icmp_ge (tgt := 17) cx.1 cx.2.1 dX4_openUnit_10 (by decide) (fun c10 => ?_) (fun c10 => ?_)
  · have h := md_ip c10 h
    refine lv_iconst (v := 0) cx.1 cx.2.1 dX4_openUnit_17 (by decide) ?_
    exact J18 _ hj σ0 b0 a1 0 _ _ _ (by omega) (by omega) (by omega) (by omega) h hw (lv_sub hl [0, 1] rfl)
  · have h := md_in c10 h
    refine lv_iconst (v := 1) cx.1 cx.2.1 dX4_openUnit_13 (by decide) ?_
    refine lv_goto (tgt := 18) cx.1 cx.2.1 dX4_openUnit_14 (by decide) ?_
    exact J18 _ hj σ0 b0 a1 1 _ _ _ (by omega) (by omega) (by omega) (by omega) h hw (lv_sub hl [0, 1] rfl)
set_option maxHeartbeats 4000000 in
set_option maxRecDepth 100000 in
theorem kc_X10_beginsPrefix (l : Launch) (D : va_G) (cA : Nat → ClassId) (E : hp_N) (sz : Nat) (ad : Nat → Nat → Nat) (ca0 : Nat → Nat) (hj : cd_inj ad ca0) (oq sgq sgv : Nat) (hE : cd_E E oq sgq sgv) (n : Nat) (σ0 : cd_S) (p : (Int32 × cd_S)) (h : f_X10_beginsPrefix n σ0 = some p) : Met l yX10_beginsPrefix (Cond.code yX10_beginsPrefix cX10_beginsPrefix 1 (some .boolean) :: v_CLS) ({ frames := 0, cells := 0, slots := 0, locals := 0 }) (hp_Pc D vwCl (hp_Tl cA) E sz (cd_pic cA ad ca0 σ0) [.ref (ad 10 0)]) (hp_Qi D vwCl (hp_Tl cA) sz (cd_pic cA ad ca0 σ0) (fun r u => r = p.1 ∧ ∃ ca1, cd_inj ad ca1 ∧ u = cd_pic cA ad ca1 p.2)) 0 0 (hp_A (cd_pic cA ad ca0 σ0) sz) := by
  refine hp_ofW (cc := cX10_beginsPrefix) (maxL := 1) (ret := (some .boolean)) (by decide) rfl (Nat.le_of_ble_eq_true rfl) ?_
  intro pp ee ss mm bb mt cd ls cx hsz hw hl
  have hl : lv_has ls 1 [(0, .ref (ad 10 0))] := hl
  refine lv_aload_n cx.1 cx.2.1 dX10_beginsPrefix_0 rfl (lv_at hl 0 rfl) ?_
  refine cd_gI (o := 10) (k := 8) (f := 328) hj cx hw hic10 rfl ⟨by decide, rfl, by decide, rfl⟩ rfl (by decide) (List.mem_cons_of_mem _ cm_652) dX10_beginsPrefix_1 ?_
  refine lv_iconst (v := 2) cx.1 cx.2.1 dX10_beginsPrefix_4 (by decide) ?_
  refine lv_icmp_eq (tgt := 34) cx.1 cx.2.1 dX10_beginsPrefix_5 (by decide) (fun c5 => ?_) (fun c5 => ?_)
  · have h := md_ip c5 h
    refine lv_iconst (v := 1) cx.1 cx.2.1 dX10_beginsPrefix_34 (by decide) ?_
    exact hp_zret cx hw (cd_ret hj h) (by decide) dX10_beginsPrefix_35
  · have h := md_in c5 h
    refine lv_aload_n cx.1 cx.2.1 dX10_beginsPrefix_8 rfl (lv_at hl 0 rfl) ?_
    refine cd_gI (o := 10) (k := 8) (f := 328) hj cx hw hic10 rfl ⟨by decide, rfl, by decide, rfl⟩ rfl (by decide) (List.mem_cons_of_mem _ cm_652) dX10_beginsPrefix_9 ?_
    refine lv_iconst (v := 3) cx.1 cx.2.1 dX10_beginsPrefix_12 (by decide) ?_
    refine lv_icmp_eq (tgt := 34) cx.1 cx.2.1 dX10_beginsPrefix_13 (by decide) (fun c13 => ?_) (fun c13 => ?_)
    · have h := md_ip c13 h
      refine lv_iconst (v := 1) cx.1 cx.2.1 dX10_beginsPrefix_34 (by decide) ?_
      exact hp_zret cx hw (cd_ret hj h) (by decide) dX10_beginsPrefix_35
    · have h := md_in c13 h
      refine lv_aload_n cx.1 cx.2.1 dX10_beginsPrefix_16 rfl (lv_at hl 0 rfl) ?_
      refine cd_gI (o := 10) (k := 8) (f := 328) hj cx hw hic10 rfl ⟨by decide, rfl, by decide, rfl⟩ rfl (by decide) (List.mem_cons_of_mem _ cm_652) dX10_beginsPrefix_17 ?_
      refine lv_bipush (v := 123) cx.1 cx.2.1 dX10_beginsPrefix_20 (by decide) ?_
      refine lv_icmp_eq (tgt := 34) cx.1 cx.2.1 dX10_beginsPrefix_22 (by decide) (fun c22 => ?_) (fun c22 => ?_)
      · have h := md_ip c22 h
        refine lv_iconst (v := 1) cx.1 cx.2.1 dX10_beginsPrefix_34 (by decide) ?_
        exact hp_zret cx hw (cd_ret hj h) (by decide) dX10_beginsPrefix_35
      · have h := md_in c22 h
        refine lv_aload_n cx.1 cx.2.1 dX10_beginsPrefix_25 rfl (lv_at hl 0 rfl) ?_
        refine cd_gI (o := 10) (k := 8) (f := 328) hj cx hw hic10 rfl ⟨by decide, rfl, by decide, rfl⟩ rfl (by decide) (List.mem_cons_of_mem _ cm_652) dX10_beginsPrefix_26 ?_
        refine lv_bipush (v := 40) cx.1 cx.2.1 dX10_beginsPrefix_29 (by decide) ?_
        refine lv_icmp_ne (tgt := 36) cx.1 cx.2.1 dX10_beginsPrefix_31 (by decide) (fun c31 => ?_) (fun c31 => ?_)
        · have h := md_in c31 h
          refine lv_aload_n cx.1 cx.2.1 dX10_beginsPrefix_36 rfl (lv_at hl 0 rfl) ?_
          refine cd_gI (o := 10) (k := 8) (f := 328) hj cx hw hic10 rfl ⟨by decide, rfl, by decide, rfl⟩ rfl (by decide) (List.mem_cons_of_mem _ cm_652) dX10_beginsPrefix_37 ?_
          refine lv_sipush (v := 220) cx.1 cx.2.1 dX10_beginsPrefix_40 (by decide) ?_
          refine lv_icmp_lt (tgt := 60) cx.1 cx.2.1 dX10_beginsPrefix_43 (by decide) (fun c43 => ?_) (fun c43 => ?_)
          · have h := md_ip c43 h
            refine lv_iconst (v := 0) cx.1 cx.2.1 dX10_beginsPrefix_60 (by decide) ?_
            exact hp_zret cx hw (cd_ret hj h) (by decide) dX10_beginsPrefix_61
          · have h := md_in c43 h
            refine lv_aload_n cx.1 cx.2.1 dX10_beginsPrefix_46 rfl (lv_at hl 0 rfl) ?_
            refine cd_gI (o := 10) (k := 8) (f := 328) hj cx hw hic10 rfl ⟨by decide, rfl, by decide, rfl⟩ rfl (by decide) (List.mem_cons_of_mem _ cm_652) dX10_beginsPrefix_47 ?_
            refine lv_sipush (v := 232) cx.1 cx.2.1 dX10_beginsPrefix_50 (by decide) ?_
            refine lv_icmp_gt (tgt := 60) cx.1 cx.2.1 dX10_beginsPrefix_53 (by decide) (fun c53 => ?_) (fun c53 => ?_)
            · have h := md_ip c53 h
              refine lv_iconst (v := 0) cx.1 cx.2.1 dX10_beginsPrefix_60 (by decide) ?_
              exact hp_zret cx hw (cd_ret hj h) (by decide) dX10_beginsPrefix_61
            · have h := md_in c53 h
              refine lv_iconst (v := 1) cx.1 cx.2.1 dX10_beginsPrefix_56 (by decide) ?_
              refine lv_goto (tgt := 61) cx.1 cx.2.1 dX10_beginsPrefix_57 (by decide) ?_
              exact hp_zret cx hw (cd_ret hj h) (by decide) dX10_beginsPrefix_61
        · have h := md_ip c31 h
          refine lv_iconst (v := 1) cx.1 cx.2.1 dX10_beginsPrefix_34 (by decide) ?_
          exact hp_zret cx hw (cd_ret hj h) (by decide) dX10_beginsPrefix_35
set_option maxHeartbeats 4000000 in
set_option maxRecDepth 100000 in
theorem kc_X10_beginsExpression (l : Launch) (D : va_G) (cA : Nat → ClassId) (E : hp_N) (sz : Nat) (ad : Nat → Nat → Nat) (ca0 : Nat → Nat) (hj : cd_inj ad ca0) (oq sgq sgv : Nat) (hE : cd_E E oq sgq sgv) (n : Nat) (σ0 : cd_S) (p : (Int32 × cd_S)) (h : f_X10_beginsExpression n σ0 = some p) : Met l yX10_beginsExpression (Cond.code yX10_beginsExpression cX10_beginsExpression 1 (some .boolean) :: v_CLS) ({ frames := 1, cells := 0, slots := 0, locals := 20 }) (hp_Pc D vwCl (hp_Tl cA) E sz (cd_pic cA ad ca0 σ0) [.ref (ad 10 0)]) (hp_Qi D vwCl (hp_Tl cA) sz (cd_pic cA ad ca0 σ0) (fun r u => r = p.1 ∧ ∃ ca1, cd_inj ad ca1 ∧ u = cd_pic cA ad ca1 p.2)) 0 0 (hp_A (cd_pic cA ad ca0 σ0) sz) := by
  refine hp_ofW (cc := cX10_beginsExpression) (maxL := 1) (ret := (some .boolean)) (by decide) rfl (Nat.le_of_ble_eq_true rfl) ?_
  intro pp ee ss mm bb mt cd ls cx hsz hw hl
  have hl : lv_has ls 1 [(0, .ref (ad 10 0))] := hl
  have J37 : ∀ (ca : Nat → Nat) (hj : cd_inj ad ca) (σ : cd_S) (H : Heap) (locs : List Loc) (ls : Array Slot), f_X10_beginsExpression_J37 n σ = some p → hp_w D vwCl (hp_Tl cA) E (hp_A (cd_pic cA ad ca0 σ0) sz) ss H locs (cd_pic cA ad ca σ) → lv_has ls 1 [] → W pp l ee ({ frames := 1, cells := 0, slots := 0, locals := 20 }) ss mm [.ref (ad 10 0)].toArray bb mt cd H locs 0 0 (MQ bb (hp_Qi D vwCl (hp_Tl cA) sz (cd_pic cA ad ca0 σ0) (fun r u => r = p.1 ∧ ∃ ca1, cd_inj ad ca1 ∧ u = cd_pic cA ad ca1 p.2)) [.ref (ad 10 0)].toArray ss 0 0 (hp_A (cd_pic cA ad ca0 σ0) sz)) (F0 mm 37 ls []) := by
    intro ca hj σ H locs ls h hw hl
    refine lv_iconst (v := 1) cx.1 cx.2.1 dX10_beginsExpression_37 (by decide) ?_
    refine lv_goto (tgt := 42) cx.1 cx.2.1 dX10_beginsExpression_38 (by decide) ?_
    exact hp_zret cx hw (cd_ret hj h) (by decide) dX10_beginsExpression_42
  refine lv_aload_n cx.1 cx.2.1 dX10_beginsExpression_0 rfl (lv_at hl 0 rfl) ?_
  refine cd_gI (o := 10) (k := 8) (f := 328) hj cx hw hic10 rfl ⟨by decide, rfl, by decide, rfl⟩ rfl (by decide) (List.mem_cons_of_mem _ cm_652) dX10_beginsExpression_1 ?_
  refine lv_sipush (v := 213) cx.1 cx.2.1 dX10_beginsExpression_4 (by decide) ?_
  refine lv_icmp_eq (tgt := 37) cx.1 cx.2.1 dX10_beginsExpression_7 (by decide) (fun c7 => ?_) (fun c7 => ?_)
  · have h := md_ip c7 h
    exact J37 _ hj σ0 _ _ _ h hw (lv_sub hl [] rfl)
  · have h := md_in c7 h
    refine lv_aload_n cx.1 cx.2.1 dX10_beginsExpression_10 rfl (lv_at hl 0 rfl) ?_
    refine cd_gI (o := 10) (k := 8) (f := 328) hj cx hw hic10 rfl ⟨by decide, rfl, by decide, rfl⟩ rfl (by decide) (List.mem_cons_of_mem _ cm_652) dX10_beginsExpression_11 ?_
    refine lv_sipush (v := 215) cx.1 cx.2.1 dX10_beginsExpression_14 (by decide) ?_
    refine lv_icmp_eq (tgt := 37) cx.1 cx.2.1 dX10_beginsExpression_17 (by decide) (fun c17 => ?_) (fun c17 => ?_)
    · have h := md_ip c17 h
      exact J37 _ hj σ0 _ _ _ h hw (lv_sub hl [] rfl)
    · have h := md_in c17 h
      refine lv_aload_n cx.1 cx.2.1 dX10_beginsExpression_20 rfl (lv_at hl 0 rfl) ?_
      refine cd_gI (o := 10) (k := 8) (f := 328) hj cx hw hic10 rfl ⟨by decide, rfl, by decide, rfl⟩ rfl (by decide) (List.mem_cons_of_mem _ cm_652) dX10_beginsExpression_21 ?_
      refine lv_sipush (v := 218) cx.1 cx.2.1 dX10_beginsExpression_24 (by decide) ?_
      refine lv_icmp_eq (tgt := 37) cx.1 cx.2.1 dX10_beginsExpression_27 (by decide) (fun c27 => ?_) (fun c27 => ?_)
      · have h := md_ip c27 h
        exact J37 _ hj σ0 _ _ _ h hw (lv_sub hl [] rfl)
      · have h := md_in c27 h
        refine lv_aload_n cx.1 cx.2.1 dX10_beginsExpression_30 rfl (lv_at hl 0 rfl) ?_
        obtain ⟨p1, e_p1, h⟩ := md_ob h
        refine hp_callVi (As := []) (rest := []) cx hw (kc_X10_beginsPrefix l D cA E _ ad _ hj oq sgq sgv hE n σ0  p1 e_p1) (cwV 0 cx.2.2.2.2.2.1 (cd_giV cm_752 cm_753 cm_754 cm_301 cm_755) rfl rfl rfl hdc_X10_beginsPrefix ⟨Nat.le_of_ble_eq_true rfl, Nat.le_of_ble_eq_true rfl⟩) (cd_atO hj (by decide) (by decide)) rfl rfl hl.1 rfl (Nat.le_of_ble_eq_true rfl) dX10_beginsExpression_31 ⟨Nat.le_refl _, Nat.le_refl _⟩ (fun r u H locs hp hw => ?_)
        obtain ⟨rfl, ca, hj, rfl⟩ := hp
        refine lv_if_eq (tgt := 41) cx.1 cx.2.1 dX10_beginsExpression_34 (by decide) (fun c34 => ?_) (fun c34 => ?_)
        · have h := md_ip c34 h
          refine lv_iconst (v := 0) cx.1 cx.2.1 dX10_beginsExpression_41 (by decide) ?_
          exact hp_zret cx hw (cd_ret hj h) (by decide) dX10_beginsExpression_42
        · have h := md_in c34 h
          exact J37 _ hj p1.2 _ _ _ h hw (lv_sub hl [] rfl)
set_option maxHeartbeats 4000000 in
set_option maxRecDepth 100000 in
theorem kc_X4_part (l : Launch) (D : va_G) (cA : Nat → ClassId) (E : hp_N) (sz : Nat) (ad : Nat → Nat → Nat) (ca0 : Nat → Nat) (hj : cd_inj ad ca0) (oq sgq sgv : Nat) (hE : cd_E E oq sgq sgv) (n : Nat) (σ0 : cd_S) (b0 : cd_B) (p : (Int32 × cd_S × cd_B)) (h : f_X4_part n σ0 b0 = some (Sum.inl p)) : (p.2.2.1 ≤ b0.1 ∧ p.2.2.2 ≤ b0.2) ∧ Met l yX4_part (Cond.code yX4_part cX4_part 1 none :: v_CLS) ({ frames := 14, cells := b0.1 - p.2.2.1, slots := b0.2 - p.2.2.2, locals := 243 }) (hp_Pc D vwCl (hp_Tl cA) E sz (cd_pic cA ad ca0 σ0) [.ref (ad 4 0)]) (hp_Qv D vwCl (hp_Tl cA) sz (cd_pic cA ad ca0 σ0) (fun u => ∃ ca1, cd_inj ad ca1 ∧ u = cd_pic cA ad ca1 p.2.1)) (b0.1 - p.2.2.1) (b0.2 - p.2.2.2) (hp_A (cd_pic cA ad ca0 σ0) sz) := by
  obtain ⟨hm0, hn0, h⟩ := cd_cks h
  have hM0 : p.2.2.1 ≤ b0.1 ∧ p.2.2.2 ≤ b0.2 := ⟨hm0, hn0⟩
  refine ⟨hM0, ?_⟩
  refine hp_ofW (cc := cX4_part) (maxL := 1) (ret := none) (by decide) rfl (Nat.le_of_ble_eq_true rfl) ?_
  intro pp ee ss mm bb mt cd ls cx hsz hw hl
  have hl : lv_has ls 1 [(0, .ref (ad 4 0))] := hl
  refine W.widen (k := b0.1 - b0.1) (n := b0.2 - b0.2) (Nat.zero_le _) (Nat.zero_le _) ?_
  have J16 : ∀ (ca : Nat → Nat) (hj : cd_inj ad ca) (σ : cd_S) (b : cd_B) (t0 : Int32) (H : Heap) (locs : List Loc) (ls : Array Slot), b.1 ≤ b0.1 → b.2 ≤ b0.2 → p.2.2.1 ≤ b.1 → p.2.2.2 ≤ b.2 → f_X4_part_J16 n σ b t0 = some (Sum.inl p) → hp_w D vwCl (hp_Tl cA) E (hp_A (cd_pic cA ad ca0 σ0) sz) ss H locs (cd_pic cA ad ca σ) → lv_has ls 1 [(0, .ref (ad 4 0))] → W pp l ee ({ frames := 14, cells := b0.1 - p.2.2.1, slots := b0.2 - p.2.2.2, locals := 243 }) ss mm [.ref (ad 4 0)].toArray bb mt cd H locs (b0.1 - b.1) (b0.2 - b.2) (MQ bb (hp_Qv D vwCl (hp_Tl cA) sz (cd_pic cA ad ca0 σ0) (fun u => ∃ ca1, cd_inj ad ca1 ∧ u = cd_pic cA ad ca1 p.2.1)) [.ref (ad 4 0)].toArray ss (b0.1 - p.2.2.1) (b0.2 - p.2.2.2) (hp_A (cd_pic cA ad ca0 σ0) sz)) (F0 mm 16 ls [.int t0, .ref (ad 4 0)]) := by
    intro ca hj σ b t0 H locs ls hb1 hb2 hf1 hf2 h hw hl
    obtain ⟨q1, e_q1, h⟩ := md_ob h
    obtain ⟨hm2, hn2, h⟩ := cd_cks h
    have hM2 : p.2.2.1 ≤ (Sum.elim (fun (p : Int32 × cd_S × cd_B) => p.2.2) (fun (t : cd_S × cd_B) => t.2) q1).1 ∧ p.2.2.2 ≤ (Sum.elim (fun (p : Int32 × cd_S × cd_B) => p.2.2) (fun (t : cd_S × cd_B) => t.2) q1).2 := ⟨hm2, hn2⟩
    cases q1 with
    | inr t1 =>
      exact nomatch Option.some.inj h
    | inl p1 =>
      have hle1 := (kc_X4_room l D cA E sz ad _ hj oq sgq sgv hE n σ b t0 p1 e_q1).1
      have hM10002 : p.2.2.1 ≤ p1.2.2.1 ∧ p.2.2.2 ≤ p1.2.2.2 := hM2
      have h := cd_inl h
      refine hp_callVv (As := [.int t0]) (rest := []) cx hw ((kc_X4_room l D cA E _ ad _ hj oq sgq sgv hE n σ b t0 p1 e_q1).2) (cwV 1 cx.2.2.2.2.2.1 (cd_giV cm_691 cm_692 cm_693 cm_663 cm_694) rfl rfl rfl hdc_X4_room ⟨Nat.le_of_ble_eq_true rfl, Nat.le_of_ble_eq_true rfl⟩) (cd_atO hj (by decide) (by decide)) rfl rfl hl.1 rfl (Nat.le_of_ble_eq_true rfl) dX4_part_16 ⟨by (try dsimp only); omega, by (try dsimp only); omega⟩ (fun u H locs hp hw => ?_)
      obtain ⟨ca, hj, rfl⟩ := hp
      refine W.widen (k := b0.1 - p1.2.2.1) (n := b0.2 - p1.2.2.2) (by omega) (by omega) ?_
      refine lv_aload_n cx.1 cx.2.1 dX4_part_19 rfl (lv_at hl 0 rfl) ?_
      refine lv_dup cx.1 cx.2.1 dX4_part_20 rfl ?_
      refine cd_gI (o := 4) (k := 10) (f := 138) hj cx hw hic4 rfl ⟨by decide, rfl, by decide, rfl⟩ rfl (by decide) (List.mem_cons_of_mem _ cm_727) dX4_part_21 ?_
      refine lv_iconst (v := 1) cx.1 cx.2.1 dX4_part_24 (by decide) ?_
      refine lv_iadd cx.1 cx.2.1 dX4_part_25 ?_
      obtain ⟨σ3, e_σ3, h⟩ := md_ob h
      refine cd_pI (o := 4) (k := 10) (f := 138) hj cx hw hic4 rfl ⟨by decide, rfl, by decide, rfl⟩ tyX4_ok nmX4 rfl (by decide) rfl (List.mem_cons_of_mem _ cm_727) rfl e_σ3 dX4_part_26 (fun H locs hw => ?_)
      exact hp_vret cx hw ((cd_retb hj (congrArg some (Sum.inl.inj (Option.some.inj h)))).2) dX4_part_29 (cd_le1 (congrArg some (Sum.inl.inj (Option.some.inj h)))) (cd_le2 (congrArg some (Sum.inl.inj (Option.some.inj h))))
  refine lv_aload_n cx.1 cx.2.1 dX4_part_0 rfl (lv_at hl 0 rfl) ?_
  refine lv_aload_n cx.1 cx.2.1 dX4_part_1 rfl (lv_at hl 0 rfl) ?_
  refine cd_gI (o := 4) (k := 10) (f := 138) hj cx hw hic4 rfl ⟨by decide, rfl, by decide, rfl⟩ rfl (by decide) (List.mem_cons_of_mem _ cm_727) dX4_part_2 ?_
  refine lv_sipush (v := 400) cx.1 cx.2.1 dX4_part_5 (by decide) ?_
  refine lv_icmp_ge (tgt := 15) cx.1 cx.2.1 dX4_part_8 (by decide) (fun c8 => ?_) (fun c8 => ?_)
  · have h := md_ip c8 h
    refine lv_iconst (v := 0) cx.1 cx.2.1 dX4_part_15 (by decide) ?_
    exact J16 _ hj σ0 b0 0 _ _ _ (by omega) (by omega) (by omega) (by omega) h hw (lv_sub hl [0] rfl)
  · have h := md_in c8 h
    refine lv_iconst (v := 1) cx.1 cx.2.1 dX4_part_11 (by decide) ?_
    refine lv_goto (tgt := 16) cx.1 cx.2.1 dX4_part_12 (by decide) ?_
    exact J16 _ hj σ0 b0 1 _ _ _ (by omega) (by omega) (by omega) (by omega) h hw (lv_sub hl [0] rfl)
set_option maxHeartbeats 4000000 in
set_option maxRecDepth 100000 in
theorem kc_X4_readArguments (l : Launch) (D : va_G) (cA : Nat → ClassId) (E : hp_N) (sz : Nat) (ad : Nat → Nat → Nat) (ca0 : Nat → Nat) (hj : cd_inj ad ca0) (oq sgq sgv : Nat) (hE : cd_E E oq sgq sgv) (n d : Nat) (rec : cd_R) (in0 : ∀ (sz : Nat) (ca : Nat → Nat) (_ : cd_inj ad ca) (σ : cd_S) (b : cd_B) (a1 : Int32) (p : Int32 × cd_S × cd_B), rec 0 0 a1 0 σ b = some (Sum.inl p) → (p.2.2.1 ≤ b.1 ∧ p.2.2.2 ≤ b.2) ∧ Met l yX4_readExpression (Cond.code yX4_readExpression cX4_readExpression 2 none :: v_CLS) ({ frames := d + 16, cells := b.1 - p.2.2.1, slots := b.2 - p.2.2.2, locals := 26 * d + 286 }) (hp_Pc D vwCl (hp_Tl cA) E sz (cd_pic cA ad ca σ) [.ref (ad 4 0), .int a1]) (hp_Qv D vwCl (hp_Tl cA) sz (cd_pic cA ad ca σ) (fun u => ∃ ca1, cd_inj ad ca1 ∧ u = cd_pic cA ad ca1 p.2.1)) (b.1 - p.2.2.1) (b.2 - p.2.2.2) (hp_A (cd_pic cA ad ca σ) sz)) (σ0 : cd_S) (b0 : cd_B) (a1 : Int32) (p : (Int32 × cd_S × cd_B)) (h : f_X4_readArguments n rec σ0 b0 a1 = some (Sum.inl p)) : (p.2.2.1 ≤ b0.1 ∧ p.2.2.2 ≤ b0.2) ∧ Met l yX4_readArguments (Cond.code yX4_readArguments cX4_readArguments 5 (some .int) :: v_CLS) ({ frames := (d + 1) + 16, cells := b0.1 - p.2.2.1, slots := b0.2 - p.2.2.2, locals := 26 * (d + 1) + 286 }) (hp_Pc D vwCl (hp_Tl cA) E sz (cd_pic cA ad ca0 σ0) [.ref (ad 4 0), .int a1]) (hp_Qi D vwCl (hp_Tl cA) sz (cd_pic cA ad ca0 σ0) (fun r u => r = p.1 ∧ ∃ ca1, cd_inj ad ca1 ∧ u = cd_pic cA ad ca1 p.2.1)) (b0.1 - p.2.2.1) (b0.2 - p.2.2.2) (hp_A (cd_pic cA ad ca0 σ0) sz) := by
  obtain ⟨hm0, hn0, h⟩ := cd_cks h
  have hM0 : p.2.2.1 ≤ b0.1 ∧ p.2.2.2 ≤ b0.2 := ⟨hm0, hn0⟩
  refine ⟨hM0, ?_⟩
  refine hp_ofW (cc := cX4_readArguments) (maxL := 5) (ret := (some .int)) (by decide) rfl (Nat.le_of_ble_eq_true rfl) ?_
  intro pp ee ss mm bb mt cd ls cx hsz hw hl
  have hl : lv_has ls 5 [(0, .ref (ad 4 0)), (1, .int a1)] := hl
  refine W.widen (k := b0.1 - b0.1) (n := b0.2 - b0.2) (Nat.zero_le _) (Nat.zero_le _) ?_
  have J26 : ∀ (ca : Nat → Nat) (hj : cd_inj ad ca) (σ : cd_S) (b : cd_B) (l1 : Int32) (l2 : Int32) (t0 : Int32) (H : Heap) (locs : List Loc) (ls : Array Slot), b.1 ≤ b0.1 → b.2 ≤ b0.2 → p.2.2.1 ≤ b.1 → p.2.2.2 ≤ b.2 → f_X4_readArguments_J26 n rec σ b l1 l2 t0 = some (Sum.inl p) → hp_w D vwCl (hp_Tl cA) E (hp_A (cd_pic cA ad ca0 σ0) sz) ss H locs (cd_pic cA ad ca σ) → lv_has ls 5 [(0, .ref (ad 4 0)), (1, .int l1), (2, .int l2)] → W pp l ee ({ frames := (d + 1) + 16, cells := b0.1 - p.2.2.1, slots := b0.2 - p.2.2.2, locals := 26 * (d + 1) + 286 }) ss mm [.ref (ad 4 0), .int a1].toArray bb mt cd H locs (b0.1 - b.1) (b0.2 - b.2) (MQ bb (hp_Qi D vwCl (hp_Tl cA) sz (cd_pic cA ad ca0 σ0) (fun r u => r = p.1 ∧ ∃ ca1, cd_inj ad ca1 ∧ u = cd_pic cA ad ca1 p.2.1)) [.ref (ad 4 0), .int a1].toArray ss (b0.1 - p.2.2.1) (b0.2 - p.2.2.2) (hp_A (cd_pic cA ad ca0 σ0) sz)) (F0 mm 26 ls [.int t0]) := by
    intro ca hj σ b l1 l2 t0 H locs ls hb1 hb2 hf1 hf2 h hw hl
    refine lv_istore_n (lv' := [(3, .int t0), (0, .ref (ad 4 0)), (1, .int l1), (2, .int l2)]) cx.1 cx.2.1 dX4_readArguments_26 rfl hl (by decide) rfl (fun ls hl => ?_)
    refine lv_iconst (v := 0) cx.1 cx.2.1 dX4_readArguments_27 (by decide) ?_
    refine lv_istore (lv' := [(4, .int 0), (3, .int t0), (0, .ref (ad 4 0)), (1, .int l1), (2, .int l2)]) cx.1 cx.2.1 dX4_readArguments_28 hl (by decide) rfl (fun ls hl => ?_)
    have L30 : ∀ (j : Nat) (ca : Nat → Nat) (hj : cd_inj ad ca) (σ : cd_S) (b : cd_B) (l1 : Int32) (l2 : Int32) (l3 : Int32) (l4 : Int32) (q : (((Int32 × cd_S × cd_B) ⊕ (cd_S × cd_B)) ⊕ (cd_S × cd_B × Int32 × Int32 × Int32))) (H : Heap) (locs : List Loc) (ls : Array Slot), b.1 ≤ b0.1 → b.2 ≤ b0.2 → p.2.2.1 ≤ b.1 → p.2.2.2 ≤ b.2 → p.2.2.1 ≤ (Sum.elim (fun (q : ((Int32 × cd_S × cd_B) ⊕ (cd_S × cd_B))) => Sum.elim (fun (p : (Int32 × cd_S × cd_B)) => p.2.2) (fun (t : cd_S × cd_B) => t.2) q) (fun (q : cd_S × cd_B × Int32 × Int32 × Int32) => q.2.1) q).1 → p.2.2.2 ≤ (Sum.elim (fun (q : ((Int32 × cd_S × cd_B) ⊕ (cd_S × cd_B))) => Sum.elim (fun (p : (Int32 × cd_S × cd_B)) => p.2.2) (fun (t : cd_S × cd_B) => t.2) q) (fun (q : cd_S × cd_B × Int32 × Int32 × Int32) => q.2.1) q).2 → f_X4_readArguments_L30 n rec l1 j σ b l2 l3 l4 = some q → hp_w D vwCl (hp_Tl cA) E (hp_A (cd_pic cA ad ca0 σ0) sz) ss H locs (cd_pic cA ad ca σ) → lv_has ls 5 [(0, .ref (ad 4 0)), (1, .int l1), (2, .int l2), (3, .int l3), (4, .int l4)] → (∀ t, q = Sum.inr t → (∀ (ca : Nat → Nat) (hj : cd_inj ad ca) (H : Heap) (locs : List Loc) (ls : Array Slot), t.2.1.1 ≤ b0.1 → t.2.1.2 ≤ b0.2 → hp_w D vwCl (hp_Tl cA) E (hp_A (cd_pic cA ad ca0 σ0) sz) ss H locs (cd_pic cA ad ca t.1) → lv_has ls 5 [(0, .ref (ad 4 0)), (2, .int t.2.2.1)] → W pp l ee ({ frames := (d + 1) + 16, cells := b0.1 - p.2.2.1, slots := b0.2 - p.2.2.2, locals := 26 * (d + 1) + 286 }) ss mm [.ref (ad 4 0), .int a1].toArray bb mt cd H locs (b0.1 - t.2.1.1) (b0.2 - t.2.1.2) (MQ bb (hp_Qi D vwCl (hp_Tl cA) sz (cd_pic cA ad ca0 σ0) (fun r u => r = p.1 ∧ ∃ ca1, cd_inj ad ca1 ∧ u = cd_pic cA ad ca1 p.2.1)) [.ref (ad 4 0), .int a1].toArray ss (b0.1 - p.2.2.1) (b0.2 - p.2.2.2) (hp_A (cd_pic cA ad ca0 σ0) sz)) (F0 mm 110 ls []))) → (∀ r, q = Sum.inl r → r = Sum.inl p) → W pp l ee ({ frames := (d + 1) + 16, cells := b0.1 - p.2.2.1, slots := b0.2 - p.2.2.2, locals := 26 * (d + 1) + 286 }) ss mm [.ref (ad 4 0), .int a1].toArray bb mt cd H locs (b0.1 - b.1) (b0.2 - b.2) (MQ bb (hp_Qi D vwCl (hp_Tl cA) sz (cd_pic cA ad ca0 σ0) (fun r u => r = p.1 ∧ ∃ ca1, cd_inj ad ca1 ∧ u = cd_pic cA ad ca1 p.2.1)) [.ref (ad 4 0), .int a1].toArray ss (b0.1 - p.2.2.1) (b0.2 - p.2.2.2) (hp_A (cd_pic cA ad ca0 σ0) sz)) (F0 mm 30 ls []) := by
      intro j
      induction j with
      | zero => intro ca hj σ b l1 l2 l3 l4 q H locs ls hb1 hb2 hf1 hf2 hq1 hq2 h; exact nomatch h
      | succ j ih =>
        intro ca hj σ b l1 l2 l3 l4 q H locs ls hb1 hb2 hf1 hf2 hq1 hq2 h hw hl K KR
        unfold f_X4_readArguments_L30 at h
        have J104 : ∀ (ca : Nat → Nat) (hj : cd_inj ad ca) (σ : cd_S) (b : cd_B) (l2 : Int32) (l3 : Int32) (l4 : Int32) (H : Heap) (locs : List Loc) (ls : Array Slot), b.1 ≤ b0.1 → b.2 ≤ b0.2 → p.2.2.1 ≤ b.1 → p.2.2.2 ≤ b.2 → f_X4_readArguments_J104 n rec l1 (f_X4_readArguments_L30 n rec l1 j) σ b l2 l3 l4 = some q → hp_w D vwCl (hp_Tl cA) E (hp_A (cd_pic cA ad ca0 σ0) sz) ss H locs (cd_pic cA ad ca σ) → lv_has ls 5 [(0, .ref (ad 4 0)), (1, .int l1), (2, .int l2), (3, .int l3), (4, .int l4)] → W pp l ee ({ frames := (d + 1) + 16, cells := b0.1 - p.2.2.1, slots := b0.2 - p.2.2.2, locals := 26 * (d + 1) + 286 }) ss mm [.ref (ad 4 0), .int a1].toArray bb mt cd H locs (b0.1 - b.1) (b0.2 - b.2) (MQ bb (hp_Qi D vwCl (hp_Tl cA) sz (cd_pic cA ad ca0 σ0) (fun r u => r = p.1 ∧ ∃ ca1, cd_inj ad ca1 ∧ u = cd_pic cA ad ca1 p.2.1)) [.ref (ad 4 0), .int a1].toArray ss (b0.1 - p.2.2.1) (b0.2 - p.2.2.2) (hp_A (cd_pic cA ad ca0 σ0) sz)) (F0 mm 104 ls []) := by
          intro ca hj σ b l2 l3 l4 H locs ls hb1 hb2 hf1 hf2 h hw hl
          refine lv_iinc (v := (l4 + 1)) (lv' := [(4, .int (l4 + 1)), (0, .ref (ad 4 0)), (1, .int l1), (2, .int l2), (3, .int l3)]) cx.1 cx.2.1 dX4_readArguments_104 hl (k := 4) rfl rfl (by decide) rfl (fun ls hl => ?_)
          refine lv_goto (tgt := 30) cx.1 cx.2.1 dX4_readArguments_107 (by decide) ?_
          exact ih _ hj σ b l1 l2 l3 ((l4 + 1)) q _ _ _ (by omega) (by omega) (by omega) (by omega) hq1 hq2 h hw (lv_sub hl [1, 2, 3, 4, 0] rfl) K KR
        have J92 : ∀ (ca : Nat → Nat) (hj : cd_inj ad ca) (σ : cd_S) (b : cd_B) (l2 : Int32) (l4 : Int32) (t0 : Int32) (H : Heap) (locs : List Loc) (ls : Array Slot), b.1 ≤ b0.1 → b.2 ≤ b0.2 → p.2.2.1 ≤ b.1 → p.2.2.2 ≤ b.2 → f_X4_readArguments_J92 n rec l1 (f_X4_readArguments_L30 n rec l1 j) σ b l2 l4 t0 = some q → hp_w D vwCl (hp_Tl cA) E (hp_A (cd_pic cA ad ca0 σ0) sz) ss H locs (cd_pic cA ad ca σ) → lv_has ls 5 [(0, .ref (ad 4 0)), (1, .int l1), (2, .int l2), (4, .int l4)] → W pp l ee ({ frames := (d + 1) + 16, cells := b0.1 - p.2.2.1, slots := b0.2 - p.2.2.2, locals := 26 * (d + 1) + 286 }) ss mm [.ref (ad 4 0), .int a1].toArray bb mt cd H locs (b0.1 - b.1) (b0.2 - b.2) (MQ bb (hp_Qi D vwCl (hp_Tl cA) sz (cd_pic cA ad ca0 σ0) (fun r u => r = p.1 ∧ ∃ ca1, cd_inj ad ca1 ∧ u = cd_pic cA ad ca1 p.2.1)) [.ref (ad 4 0), .int a1].toArray ss (b0.1 - p.2.2.1) (b0.2 - p.2.2.2) (hp_A (cd_pic cA ad ca0 σ0) sz)) (F0 mm 92 ls [.int t0]) := by
          intro ca hj σ b l2 l4 t0 H locs ls hb1 hb2 hf1 hf2 h hw hl
          refine lv_istore_n (lv' := [(3, .int t0), (0, .ref (ad 4 0)), (1, .int l1), (2, .int l2), (4, .int l4)]) cx.1 cx.2.1 dX4_readArguments_92 rfl hl (by decide) rfl (fun ls hl => ?_)
          refine lv_iload_n cx.1 cx.2.1 dX4_readArguments_93 rfl (lv_at hl 0 rfl) ?_
          refine lv_if_eq (tgt := 104) cx.1 cx.2.1 dX4_readArguments_94 (by decide) (fun c94 => ?_) (fun c94 => ?_)
          · have h := md_ip c94 h
            exact J104 _ hj σ b l2 t0 l4 _ _ _ (by omega) (by omega) (by omega) (by omega) h hw (lv_sub hl [1, 2, 3, 0, 4] rfl)
          · have h := md_in c94 h
            refine lv_aload_n cx.1 cx.2.1 dX4_readArguments_97 rfl (lv_at hl 1 rfl) ?_
            refine cd_gO (o2 := 10) (e2 := 0) (o := 4) (k := 0) (f := 128) hj cx hw hic4 rfl ⟨by decide, rfl, by decide, rfl⟩ rfl (by decide) ⟨rfl, rfl⟩ (List.mem_cons_of_mem _ cm_658) dX4_readArguments_98 ?_
            obtain ⟨p1, e_p1, h⟩ := md_ob h
            refine hp_callVv (As := []) (rest := []) cx hw (kc_X10_advance l D cA E _ ad _ hj oq sgq sgv hE n σ  p1 e_p1) (cwV 0 cx.2.2.2.2.2.1 (cd_giV cm_670 cm_671 cm_672 cm_301 cm_673) rfl rfl rfl hdc_X10_advance ⟨by (try dsimp only); omega, by (try dsimp only); omega⟩) (cd_atO hj (by decide) (by decide)) rfl rfl hl.1 rfl (Nat.le_of_ble_eq_true rfl) dX4_readArguments_101 ⟨by (try dsimp only); omega, by (try dsimp only); omega⟩ (fun u H locs hp hw => ?_)
            obtain ⟨ca, hj, rfl⟩ := hp
            exact J104 _ hj p1.2 b l2 t0 l4 _ _ _ (by omega) (by omega) (by omega) (by omega) h hw (lv_sub hl [1, 2, 3, 0, 4] rfl)
        have J62 : ∀ (ca : Nat → Nat) (hj : cd_inj ad ca) (σ : cd_S) (b : cd_B) (l2 : Int32) (l4 : Int32) (t0 : Int32) (H : Heap) (locs : List Loc) (ls : Array Slot), b.1 ≤ b0.1 → b.2 ≤ b0.2 → p.2.2.1 ≤ b.1 → p.2.2.2 ≤ b.2 → f_X4_readArguments_J62 n rec l1 (f_X4_readArguments_L30 n rec l1 j) σ b l2 l4 t0 = some q → hp_w D vwCl (hp_Tl cA) E (hp_A (cd_pic cA ad ca0 σ0) sz) ss H locs (cd_pic cA ad ca σ) → lv_has ls 5 [(0, .ref (ad 4 0)), (1, .int l1), (2, .int l2), (4, .int l4)] → W pp l ee ({ frames := (d + 1) + 16, cells := b0.1 - p.2.2.1, slots := b0.2 - p.2.2.2, locals := 26 * (d + 1) + 286 }) ss mm [.ref (ad 4 0), .int a1].toArray bb mt cd H locs (b0.1 - b.1) (b0.2 - b.2) (MQ bb (hp_Qi D vwCl (hp_Tl cA) sz (cd_pic cA ad ca0 σ0) (fun r u => r = p.1 ∧ ∃ ca1, cd_inj ad ca1 ∧ u = cd_pic cA ad ca1 p.2.1)) [.ref (ad 4 0), .int a1].toArray ss (b0.1 - p.2.2.1) (b0.2 - p.2.2.2) (hp_A (cd_pic cA ad ca0 σ0) sz)) (F0 mm 62 ls [.int t0, .ref (ad 4 0)]) := by
          intro ca hj σ b l2 l4 t0 H locs ls hb1 hb2 hf1 hf2 h hw hl
          obtain ⟨q2, e_q2, h⟩ := md_ob h
          obtain ⟨hm3, hn3, h⟩ := cd_cks h
          have hM3 : p.2.2.1 ≤ (Sum.elim (fun (p : Int32 × cd_S × cd_B) => p.2.2) (fun (t : cd_S × cd_B) => t.2) q2).1 ∧ p.2.2.2 ≤ (Sum.elim (fun (p : Int32 × cd_S × cd_B) => p.2.2) (fun (t : cd_S × cd_B) => t.2) q2).2 := ⟨Nat.le_trans hq1 hm3, Nat.le_trans hq2 hn3⟩
          cases q2 with
          | inr t2 =>
            exact nomatch KR _ (Option.some.inj h).symm
          | inl p2 =>
            have hle2 := (kc_X4_room l D cA E sz ad _ hj oq sgq sgv hE n σ b t0 p2 e_q2).1
            have hM10003 : p.2.2.1 ≤ p2.2.2.1 ∧ p.2.2.2 ≤ p2.2.2.2 := hM3
            have h := cd_inl h
            refine hp_callVv (As := [.int t0]) (rest := []) cx hw ((kc_X4_room l D cA E _ ad _ hj oq sgq sgv hE n σ b t0 p2 e_q2).2) (cwV 1 cx.2.2.2.2.2.1 (cd_giV cm_691 cm_692 cm_693 cm_663 cm_694) rfl rfl rfl hdc_X4_room ⟨by (try dsimp only); omega, by (try dsimp only); omega⟩) (cd_atO hj (by decide) (by decide)) rfl rfl hl.1 rfl (Nat.le_of_ble_eq_true rfl) dX4_readArguments_62 ⟨by (try dsimp only); omega, by (try dsimp only); omega⟩ (fun u H locs hp hw => ?_)
            obtain ⟨ca, hj, rfl⟩ := hp
            refine W.widen (k := b0.1 - p2.2.2.1) (n := b0.2 - p2.2.2.2) (by omega) (by omega) ?_
            refine lv_aload_n cx.1 cx.2.1 dX4_readArguments_65 rfl (lv_at hl 0 rfl) ?_
            refine lv_iload_n cx.1 cx.2.1 dX4_readArguments_66 rfl (lv_at hl 1 rfl) ?_
            refine lv_iconst (v := 1) cx.1 cx.2.1 dX4_readArguments_67 (by decide) ?_
            refine lv_iadd cx.1 cx.2.1 dX4_readArguments_68 ?_
            obtain ⟨q4, e_q4, h⟩ := md_ob h
            obtain ⟨hm5, hn5, h⟩ := cd_cks h
            have hM5 : p.2.2.1 ≤ (Sum.elim (fun (p : Int32 × cd_S × cd_B) => p.2.2) (fun (t : cd_S × cd_B) => t.2) q4).1 ∧ p.2.2.2 ≤ (Sum.elim (fun (p : Int32 × cd_S × cd_B) => p.2.2) (fun (t : cd_S × cd_B) => t.2) q4).2 := ⟨Nat.le_trans hq1 hm5, Nat.le_trans hq2 hn5⟩
            cases q4 with
            | inr t4 =>
              exact nomatch KR _ (Option.some.inj h).symm
            | inl p4 =>
              have hle4 := (in0 sz _ hj p2.2.1 (p2.2.2) ((l1 + 1)) p4 e_q4).1
              have hM10005 : p.2.2.1 ≤ p4.2.2.1 ∧ p.2.2.2 ≤ p4.2.2.2 := hM5
              have h := cd_inl h
              refine hp_callVv (As := [.int (l1 + 1)]) (rest := []) cx hw ((in0 _ _ hj p2.2.1 (p2.2.2) ((l1 + 1)) p4 e_q4).2) (cwV 1 cx.2.2.2.2.2.1 (cd_giV cm_760 cm_761 cm_762 cm_663 cm_763) rfl rfl rfl hdc_X4_readExpression ⟨by (try dsimp only); omega, by (try dsimp only); omega⟩) (cd_atO hj (by decide) (by decide)) rfl rfl hl.1 rfl (Nat.le_of_ble_eq_true rfl) dX4_readArguments_69 ⟨by (try dsimp only); omega, by (try dsimp only); omega⟩ (fun u H locs hp hw => ?_)
              obtain ⟨ca, hj, rfl⟩ := hp
              refine W.widen (k := b0.1 - p4.2.2.1) (n := b0.2 - p4.2.2.2) (by omega) (by omega) ?_
              refine lv_iinc (v := (l2 + 1)) (lv' := [(2, .int (l2 + 1)), (0, .ref (ad 4 0)), (1, .int l1), (4, .int l4)]) cx.1 cx.2.1 dX4_readArguments_72 hl (k := 2) rfl rfl (by decide) rfl (fun ls hl => ?_)
              refine lv_aload_n cx.1 cx.2.1 dX4_readArguments_75 rfl (lv_at hl 1 rfl) ?_
              refine cd_gO (o2 := 10) (e2 := 0) (o := 4) (k := 0) (f := 128) hj cx hw hic4 rfl ⟨by decide, rfl, by decide, rfl⟩ rfl (by decide) ⟨rfl, rfl⟩ (List.mem_cons_of_mem _ cm_658) dX4_readArguments_76 ?_
              refine cd_gI (o := 10) (k := 8) (f := 328) hj cx hw hic10 rfl ⟨by decide, rfl, by decide, rfl⟩ rfl (by decide) (List.mem_cons_of_mem _ cm_665) dX4_readArguments_79 ?_
              refine lv_bipush (v := 44) cx.1 cx.2.1 dX4_readArguments_82 (by decide) ?_
              refine lv_icmp_ne (tgt := 91) cx.1 cx.2.1 dX4_readArguments_84 (by decide) (fun c84 => ?_) (fun c84 => ?_)
              · have h := md_in c84 h
                refine lv_iconst (v := 0) cx.1 cx.2.1 dX4_readArguments_91 (by decide) ?_
                exact J92 _ hj p4.2.1 (p4.2.2) ((l2 + 1)) l4 0 _ _ _ (by omega) (by omega) (by omega) (by omega) h hw (lv_sub hl [1, 2, 0, 3] rfl)
              · have h := md_ip c84 h
                refine lv_iconst (v := 1) cx.1 cx.2.1 dX4_readArguments_87 (by decide) ?_
                refine lv_goto (tgt := 92) cx.1 cx.2.1 dX4_readArguments_88 (by decide) ?_
                exact J92 _ hj p4.2.1 (p4.2.2) ((l2 + 1)) l4 1 _ _ _ (by omega) (by omega) (by omega) (by omega) h hw (lv_sub hl [1, 2, 0, 3] rfl)
        refine lv_iload_n cx.1 cx.2.1 dX4_readArguments_30 rfl (lv_at hl 3 rfl) ?_
        refine lv_if_eq (tgt := 110) cx.1 cx.2.1 dX4_readArguments_31 (by decide) (fun c31 => ?_) (fun c31 => ?_)
        · have h := md_ip c31 h
          exact K _ (Option.some.inj h).symm _ hj _ _ _ (by (try dsimp only); omega) (by (try dsimp only); omega) hw (lv_sub hl [0, 2] rfl)
        · have h := md_in c31 h
          refine lv_iload cx.1 cx.2.1 dX4_readArguments_34 (lv_at hl 4 rfl) ?_
          refine lv_iconst (v := 3) cx.1 cx.2.1 dX4_readArguments_36 (by decide) ?_
          refine lv_icmp_gt (tgt := 110) cx.1 cx.2.1 dX4_readArguments_37 (by decide) (fun c37 => ?_) (fun c37 => ?_)
          · have h := md_ip c37 h
            exact K _ (Option.some.inj h).symm _ hj _ _ _ (by (try dsimp only); omega) (by (try dsimp only); omega) hw (lv_sub hl [0, 2] rfl)
          · have h := md_in c37 h
            refine lv_aload_n cx.1 cx.2.1 dX4_readArguments_40 rfl (lv_at hl 0 rfl) ?_
            refine lv_aload_n cx.1 cx.2.1 dX4_readArguments_41 rfl (lv_at hl 0 rfl) ?_
            refine cd_gO (o2 := 10) (e2 := 0) (o := 4) (k := 0) (f := 128) hj cx hw hic4 rfl ⟨by decide, rfl, by decide, rfl⟩ rfl (by decide) ⟨rfl, rfl⟩ (List.mem_cons_of_mem _ cm_658) dX4_readArguments_42 ?_
            obtain ⟨p6, e_p6, h⟩ := md_ob h
            refine hp_callVi (As := []) (rest := [.ref (ad 4 0)]) cx hw (kc_X10_beginsExpression l D cA E _ ad _ hj oq sgq sgv hE n σ  p6 e_p6) (cwV 0 cx.2.2.2.2.2.1 (cd_giV cm_756 cm_757 cm_758 cm_301 cm_759) rfl rfl rfl hdc_X10_beginsExpression ⟨by (try dsimp only); omega, by (try dsimp only); omega⟩) (cd_atO hj (by decide) (by decide)) rfl rfl hl.1 rfl (Nat.le_of_ble_eq_true rfl) dX4_readArguments_45 ⟨by (try dsimp only); omega, by (try dsimp only); omega⟩ (fun r u H locs hp hw => ?_)
            obtain ⟨rfl, ca, hj, rfl⟩ := hp
            obtain ⟨q7, e_q7, h⟩ := md_ob h
            obtain ⟨hm8, hn8, h⟩ := cd_cks h
            have hM8 : p.2.2.1 ≤ (Sum.elim (fun (p : Int32 × cd_S × cd_B) => p.2.2) (fun (t : cd_S × cd_B) => t.2) q7).1 ∧ p.2.2.2 ≤ (Sum.elim (fun (p : Int32 × cd_S × cd_B) => p.2.2) (fun (t : cd_S × cd_B) => t.2) q7).2 := ⟨Nat.le_trans hq1 hm8, Nat.le_trans hq2 hn8⟩
            cases q7 with
            | inr t7 =>
              exact nomatch KR _ (Option.some.inj h).symm
            | inl p7 =>
              have hle7 := (kc_X4_need l D cA E sz ad _ hj oq sgq sgv hE n p6.2 b (p6.1) p7 e_q7).1
              have hM10008 : p.2.2.1 ≤ p7.2.2.1 ∧ p.2.2.2 ≤ p7.2.2.2 := hM8
              have h := cd_inl h
              refine hp_callVv (As := [.int p6.1]) (rest := []) cx hw ((kc_X4_need l D cA E _ ad _ hj oq sgq sgv hE n p6.2 b (p6.1) p7 e_q7).2) (cwV 1 cx.2.2.2.2.2.1 (cd_giV cm_666 cm_667 cm_668 cm_663 cm_669) rfl rfl rfl hdc_X4_need ⟨by (try dsimp only); omega, by (try dsimp only); omega⟩) (cd_atO hj (by decide) (by decide)) rfl rfl hl.1 rfl (Nat.le_of_ble_eq_true rfl) dX4_readArguments_48 ⟨by (try dsimp only); omega, by (try dsimp only); omega⟩ (fun u H locs hp hw => ?_)
              obtain ⟨ca, hj, rfl⟩ := hp
              refine W.widen (k := b0.1 - p7.2.2.1) (n := b0.2 - p7.2.2.2) (by omega) (by omega) ?_
              refine lv_aload_n cx.1 cx.2.1 dX4_readArguments_51 rfl (lv_at hl 0 rfl) ?_
              refine lv_iload_n cx.1 cx.2.1 dX4_readArguments_52 rfl (lv_at hl 2 rfl) ?_
              refine lv_iconst (v := 3) cx.1 cx.2.1 dX4_readArguments_53 (by decide) ?_
              refine lv_icmp_ge (tgt := 61) cx.1 cx.2.1 dX4_readArguments_54 (by decide) (fun c54 => ?_) (fun c54 => ?_)
              · have h := md_ip c54 h
                refine lv_iconst (v := 0) cx.1 cx.2.1 dX4_readArguments_61 (by decide) ?_
                exact J62 _ hj p7.2.1 (p7.2.2) l2 l4 0 _ _ _ (by omega) (by omega) (by omega) (by omega) h hw (lv_sub hl [0, 1, 2, 4] rfl)
              · have h := md_in c54 h
                refine lv_iconst (v := 1) cx.1 cx.2.1 dX4_readArguments_57 (by decide) ?_
                refine lv_goto (tgt := 62) cx.1 cx.2.1 dX4_readArguments_58 (by decide) ?_
                exact J62 _ hj p7.2.1 (p7.2.2) l2 l4 1 _ _ _ (by omega) (by omega) (by omega) (by omega) h hw (lv_sub hl [0, 1, 2, 4] rfl)
    obtain ⟨q9, e_q9, h⟩ := md_ob h
    obtain ⟨hm10, hn10, h⟩ := cd_cks h
    have hM10 : p.2.2.1 ≤ (Sum.elim (fun (q : ((Int32 × cd_S × cd_B) ⊕ (cd_S × cd_B))) => Sum.elim (fun (p : (Int32 × cd_S × cd_B)) => p.2.2) (fun (t : cd_S × cd_B) => t.2) q) (fun (q : cd_S × cd_B × Int32 × Int32 × Int32) => q.2.1) q9).1 ∧ p.2.2.2 ≤ (Sum.elim (fun (q : ((Int32 × cd_S × cd_B) ⊕ (cd_S × cd_B))) => Sum.elim (fun (p : (Int32 × cd_S × cd_B)) => p.2.2) (fun (t : cd_S × cd_B) => t.2) q) (fun (q : cd_S × cd_B × Int32 × Int32 × Int32) => q.2.1) q9).2 := ⟨hm10, hn10⟩
    refine L30 n _ hj σ b l1 l2 t0 0 q9 _ _ _ (by omega) (by omega) (by omega) (by omega) hM10.1 hM10.2 e_q9 hw (lv_sub hl [2, 3, 4, 1, 0] rfl) (fun t9 hq9 ca hj H locs ls hb1 hb2 hw hl => ?_) (fun r hr => by subst hr; exact Option.some.inj h)
    subst hq9
    have h := md_inr h
    have hS10 : p.2.2.1 ≤ t9.2.1.1 ∧ p.2.2.2 ≤ t9.2.1.2 := hM10
    refine lv_aload_n cx.1 cx.2.1 dX4_readArguments_110 rfl (lv_at hl 0 rfl) ?_
    refine lv_bipush (v := 41) cx.1 cx.2.1 dX4_readArguments_111 (by decide) ?_
    obtain ⟨q11, e_q11, h⟩ := md_ob h
    obtain ⟨hm12, hn12, h⟩ := cd_cks h
    have hM12 : p.2.2.1 ≤ (Sum.elim (fun (p : Int32 × cd_S × cd_B) => p.2.2) (fun (t : cd_S × cd_B) => t.2) q11).1 ∧ p.2.2.2 ≤ (Sum.elim (fun (p : Int32 × cd_S × cd_B) => p.2.2) (fun (t : cd_S × cd_B) => t.2) q11).2 := ⟨hm12, hn12⟩
    cases q11 with
    | inr t11 =>
      exact nomatch Option.some.inj h
    | inl p11 =>
      have hle11 := (kc_X4_pass l D cA E sz ad _ hj oq sgq sgv hE n t9.1 (t9.2.1) (41 : Int32) p11 e_q11).1
      have hM10012 : p.2.2.1 ≤ p11.2.2.1 ∧ p.2.2.2 ≤ p11.2.2.2 := hM12
      have h := cd_inl h
      refine hp_callVv (As := [.int 41]) (rest := []) cx hw ((kc_X4_pass l D cA E _ ad _ hj oq sgq sgv hE n t9.1 (t9.2.1) (41 : Int32) p11 e_q11).2) (cwV 1 cx.2.2.2.2.2.1 (cd_giV cm_714 cm_715 cm_716 cm_663 cm_717) rfl rfl rfl hdc_X4_pass ⟨by (try dsimp only); omega, by (try dsimp only); omega⟩) (cd_atO hj (by decide) (by decide)) rfl rfl hl.1 rfl (Nat.le_of_ble_eq_true rfl) dX4_readArguments_113 ⟨by (try dsimp only); omega, by (try dsimp only); omega⟩ (fun u H locs hp hw => ?_)
      obtain ⟨ca, hj, rfl⟩ := hp
      refine W.widen (k := b0.1 - p11.2.2.1) (n := b0.2 - p11.2.2.2) (by omega) (by omega) ?_
      refine lv_iload_n cx.1 cx.2.1 dX4_readArguments_116 rfl (lv_at hl 1 rfl) ?_
      exact hp_iret cx hw (cd_retb hj (congrArg some (Sum.inl.inj (Option.some.inj h)))) dX4_readArguments_117 (cd_le1 (congrArg some (Sum.inl.inj (Option.some.inj h)))) (cd_le2 (congrArg some (Sum.inl.inj (Option.some.inj h))))
  refine lv_aload_n cx.1 cx.2.1 dX4_readArguments_0 rfl (lv_at hl 0 rfl) ?_
  refine cd_gO (o2 := 10) (e2 := 0) (o := 4) (k := 0) (f := 128) hj cx hw hic4 rfl ⟨by decide, rfl, by decide, rfl⟩ rfl (by decide) ⟨rfl, rfl⟩ (List.mem_cons_of_mem _ cm_658) dX4_readArguments_1 ?_
  obtain ⟨p13, e_p13, h⟩ := md_ob h
  refine hp_callVv (As := []) (rest := []) cx hw (kc_X10_advance l D cA E _ ad _ hj oq sgq sgv hE n σ0  p13 e_p13) (cwV 0 cx.2.2.2.2.2.1 (cd_giV cm_670 cm_671 cm_672 cm_301 cm_673) rfl rfl rfl hdc_X10_advance ⟨by (try dsimp only); omega, by (try dsimp only); omega⟩) (cd_atO hj (by decide) (by decide)) rfl rfl hl.1 rfl (Nat.le_of_ble_eq_true rfl) dX4_readArguments_4 ⟨by (try dsimp only); omega, by (try dsimp only); omega⟩ (fun u H locs hp hw => ?_)
  obtain ⟨ca, hj, rfl⟩ := hp
  refine lv_iconst (v := 0) cx.1 cx.2.1 dX4_readArguments_7 (by decide) ?_
  refine lv_istore_n (lv' := [(2, .int 0), (0, .ref (ad 4 0)), (1, .int a1)]) cx.1 cx.2.1 dX4_readArguments_8 rfl hl (by decide) rfl (fun ls hl => ?_)
  refine lv_aload_n cx.1 cx.2.1 dX4_readArguments_9 rfl (lv_at hl 1 rfl) ?_
  refine cd_gO (o2 := 10) (e2 := 0) (o := 4) (k := 0) (f := 128) hj cx hw hic4 rfl ⟨by decide, rfl, by decide, rfl⟩ rfl (by decide) ⟨rfl, rfl⟩ (List.mem_cons_of_mem _ cm_658) dX4_readArguments_10 ?_
  refine cd_gI (o := 10) (k := 8) (f := 328) hj cx hw hic10 rfl ⟨by decide, rfl, by decide, rfl⟩ rfl (by decide) (List.mem_cons_of_mem _ cm_665) dX4_readArguments_13 ?_
  refine lv_bipush (v := 41) cx.1 cx.2.1 dX4_readArguments_16 (by decide) ?_
  refine lv_icmp_eq (tgt := 25) cx.1 cx.2.1 dX4_readArguments_18 (by decide) (fun c18 => ?_) (fun c18 => ?_)
  · have h := md_ip c18 h
    refine lv_iconst (v := 0) cx.1 cx.2.1 dX4_readArguments_25 (by decide) ?_
    exact J26 _ hj p13.2 b0 a1 0 0 _ _ _ (by omega) (by omega) (by omega) (by omega) h hw (lv_sub hl [1, 2, 0] rfl)
  · have h := md_in c18 h
    refine lv_iconst (v := 1) cx.1 cx.2.1 dX4_readArguments_21 (by decide) ?_
    refine lv_goto (tgt := 26) cx.1 cx.2.1 dX4_readArguments_22 (by decide) ?_
    exact J26 _ hj p13.2 b0 a1 0 1 _ _ _ (by omega) (by omega) (by omega) (by omega) h hw (lv_sub hl [1, 2, 0] rfl)
set_option maxHeartbeats 4000000 in
set_option maxRecDepth 100000 in
theorem kc_X9_emit (l : Launch) (D : va_G) (cA : Nat → ClassId) (E : hp_N) (sz : Nat) (ad : Nat → Nat → Nat) (ca0 : Nat → Nat) (hj : cd_inj ad ca0) (oq sgq sgv : Nat) (hE : cd_E E oq sgq sgv) (n : Nat) (σ0 : cd_S) (b0 : cd_B) (a0 : Nat) (a1 : Int32) (a2 : Int32) (a3 : Int32) (hb_a0 : a0 < 60) (p : (Int32 × cd_S × cd_B)) (h : f_X9_emit n σ0 b0 a0 a1 a2 a3 = some p) : (p.2.2.1 ≤ b0.1 ∧ p.2.2.2 ≤ b0.2) ∧ Met l yX9_emit (Cond.code yX9_emit cX9_emit 4 none :: v_CLS) ({ frames := 4, cells := b0.1 - p.2.2.1, slots := b0.2 - p.2.2.2, locals := 111 }) (hp_Pc D vwCl (hp_Tl cA) E sz (cd_pic cA ad ca0 σ0) [.ref (ad 9 a0), .int a1, .int a2, .int a3]) (hp_Qv D vwCl (hp_Tl cA) sz (cd_pic cA ad ca0 σ0) (fun u => ∃ ca1, cd_inj ad ca1 ∧ u = cd_pic cA ad ca1 p.2.1)) (b0.1 - p.2.2.1) (b0.2 - p.2.2.2) (hp_A (cd_pic cA ad ca0 σ0) sz) := by
  obtain ⟨hm0, hn0, h⟩ := cd_cks h
  have hM0 : p.2.2.1 ≤ b0.1 ∧ p.2.2.2 ≤ b0.2 := ⟨hm0, hn0⟩
  refine ⟨hM0, ?_⟩
  refine hp_ofW (cc := cX9_emit) (maxL := 4) (ret := none) (by decide) rfl (Nat.le_of_ble_eq_true rfl) ?_
  intro pp ee ss mm bb mt cd ls cx hsz hw hl
  have hl : lv_has ls 4 [(0, .ref (ad 9 a0)), (1, .int a1), (2, .int a2), (3, .int a3)] := hl
  refine W.widen (k := b0.1 - b0.1) (n := b0.2 - b0.2) (Nat.zero_le _) (Nat.zero_le _) ?_
  refine lv_aload_n cx.1 cx.2.1 dX9_emit_0 rfl (lv_at hl 0 rfl) ?_
  refine cd_gO (o2 := 6) (e2 := (17 + 3 * a0)) (o := 9) (k := 15) (f := 303) hj cx hw hic9 rfl ⟨by decide, rfl, by decide, rfl⟩ rfl (show _ < 60 by omega) ⟨rfl, rfl⟩ (List.mem_cons_of_mem _ cm_543) dX9_emit_1 ?_
  refine lv_iload_n cx.1 cx.2.1 dX9_emit_4 rfl (lv_at hl 1 rfl) ?_
  refine lv_i2l (v := (a1.toInt64)) cx.1 cx.2.1 dX9_emit_5 rfl ?_
  obtain ⟨p1, e_p1, h⟩ := md_ob h
  obtain ⟨hm2, hn2, h⟩ := cd_cks h
  have hM2 : p.2.2.1 ≤ p1.2.2.1 ∧ p.2.2.2 ≤ p1.2.2.2 := ⟨hm2, hn2⟩
  have hle1 := (kc_X6_add l D cA E sz ad _ hj oq sgq sgv hE n σ0 b0 ((17 + 3 * a0)) ((a1.toInt64)) (show _ < 197 by omega) p1 e_p1).1
  refine hp_callVv (As := [.long (a1.toInt64)]) (rest := []) cx hw ((kc_X6_add l D cA E _ ad _ hj oq sgq sgv hE n σ0 b0 ((17 + 3 * a0)) ((a1.toInt64)) (show _ < 197 by omega) p1 e_p1).2) (cwV 1 cx.2.2.2.2.2.1 (cd_giV cm_570 cm_40 cm_41 cm_5 cm_42) rfl rfl rfl hdc_X6_add ⟨Nat.le_of_ble_eq_true rfl, Nat.le_of_ble_eq_true rfl⟩) (cd_atO hj (by decide) (show _ < 197 by omega)) rfl rfl hl.1 rfl (Nat.le_of_ble_eq_true rfl) dX9_emit_6 ⟨by (try dsimp only); omega, by (try dsimp only); omega⟩ (fun u H locs hp hw => ?_)
  obtain ⟨ca, hj, rfl⟩ := hp
  refine W.widen (k := b0.1 - p1.2.2.1) (n := b0.2 - p1.2.2.2) (by omega) (by omega) ?_
  refine lv_aload_n cx.1 cx.2.1 dX9_emit_9 rfl (lv_at hl 0 rfl) ?_
  refine cd_gO (o2 := 6) (e2 := (17 + 3 * a0)) (o := 9) (k := 15) (f := 303) hj cx hw hic9 rfl ⟨by decide, rfl, by decide, rfl⟩ rfl (show _ < 60 by omega) ⟨rfl, rfl⟩ (List.mem_cons_of_mem _ cm_543) dX9_emit_10 ?_
  refine lv_iload_n cx.1 cx.2.1 dX9_emit_13 rfl (lv_at hl 2 rfl) ?_
  refine lv_i2l (v := (a2.toInt64)) cx.1 cx.2.1 dX9_emit_14 rfl ?_
  obtain ⟨p3, e_p3, h⟩ := md_ob h
  obtain ⟨hm4, hn4, h⟩ := cd_cks h
  have hM4 : p.2.2.1 ≤ p3.2.2.1 ∧ p.2.2.2 ≤ p3.2.2.2 := ⟨hm4, hn4⟩
  have hle3 := (kc_X6_add l D cA E sz ad _ hj oq sgq sgv hE n p1.2.1 (p1.2.2) ((17 + 3 * a0)) ((a2.toInt64)) (show _ < 197 by omega) p3 e_p3).1
  refine hp_callVv (As := [.long (a2.toInt64)]) (rest := []) cx hw ((kc_X6_add l D cA E _ ad _ hj oq sgq sgv hE n p1.2.1 (p1.2.2) ((17 + 3 * a0)) ((a2.toInt64)) (show _ < 197 by omega) p3 e_p3).2) (cwV 1 cx.2.2.2.2.2.1 (cd_giV cm_570 cm_40 cm_41 cm_5 cm_42) rfl rfl rfl hdc_X6_add ⟨Nat.le_of_ble_eq_true rfl, Nat.le_of_ble_eq_true rfl⟩) (cd_atO hj (by decide) (show _ < 197 by omega)) rfl rfl hl.1 rfl (Nat.le_of_ble_eq_true rfl) dX9_emit_15 ⟨by (try dsimp only); omega, by (try dsimp only); omega⟩ (fun u H locs hp hw => ?_)
  obtain ⟨ca, hj, rfl⟩ := hp
  refine W.widen (k := b0.1 - p3.2.2.1) (n := b0.2 - p3.2.2.2) (by omega) (by omega) ?_
  refine lv_aload_n cx.1 cx.2.1 dX9_emit_18 rfl (lv_at hl 0 rfl) ?_
  refine cd_gO (o2 := 6) (e2 := (17 + 3 * a0)) (o := 9) (k := 15) (f := 303) hj cx hw hic9 rfl ⟨by decide, rfl, by decide, rfl⟩ rfl (show _ < 60 by omega) ⟨rfl, rfl⟩ (List.mem_cons_of_mem _ cm_543) dX9_emit_19 ?_
  refine lv_iload_n cx.1 cx.2.1 dX9_emit_22 rfl (lv_at hl 3 rfl) ?_
  refine lv_i2l (v := (a3.toInt64)) cx.1 cx.2.1 dX9_emit_23 rfl ?_
  obtain ⟨p5, e_p5, h⟩ := md_ob h
  obtain ⟨hm6, hn6, h⟩ := cd_cks h
  have hM6 : p.2.2.1 ≤ p5.2.2.1 ∧ p.2.2.2 ≤ p5.2.2.2 := ⟨hm6, hn6⟩
  have hle5 := (kc_X6_add l D cA E sz ad _ hj oq sgq sgv hE n p3.2.1 (p3.2.2) ((17 + 3 * a0)) ((a3.toInt64)) (show _ < 197 by omega) p5 e_p5).1
  refine hp_callVv (As := [.long (a3.toInt64)]) (rest := []) cx hw ((kc_X6_add l D cA E _ ad _ hj oq sgq sgv hE n p3.2.1 (p3.2.2) ((17 + 3 * a0)) ((a3.toInt64)) (show _ < 197 by omega) p5 e_p5).2) (cwV 1 cx.2.2.2.2.2.1 (cd_giV cm_570 cm_40 cm_41 cm_5 cm_42) rfl rfl rfl hdc_X6_add ⟨Nat.le_of_ble_eq_true rfl, Nat.le_of_ble_eq_true rfl⟩) (cd_atO hj (by decide) (show _ < 197 by omega)) rfl rfl hl.1 rfl (Nat.le_of_ble_eq_true rfl) dX9_emit_24 ⟨by (try dsimp only); omega, by (try dsimp only); omega⟩ (fun u H locs hp hw => ?_)
  obtain ⟨ca, hj, rfl⟩ := hp
  refine W.widen (k := b0.1 - p5.2.2.1) (n := b0.2 - p5.2.2.2) (by omega) (by omega) ?_
  exact hp_vret cx hw ((cd_retb hj h).2) dX9_emit_27 (cd_le1 h) (cd_le2 h)
set_option maxHeartbeats 4000000 in
set_option maxRecDepth 100000 in
theorem kc_X4_readAsking (l : Launch) (D : va_G) (cA : Nat → ClassId) (E : hp_N) (sz : Nat) (ad : Nat → Nat → Nat) (ca0 : Nat → Nat) (hj : cd_inj ad ca0) (oq sgq sgv : Nat) (hE : cd_E E oq sgq sgv) (n d : Nat) (rec : cd_R) (in0 : ∀ (sz : Nat) (ca : Nat → Nat) (_ : cd_inj ad ca) (σ : cd_S) (b : cd_B) (a1 : Int32) (p : Int32 × cd_S × cd_B), rec 0 0 a1 0 σ b = some (Sum.inl p) → (p.2.2.1 ≤ b.1 ∧ p.2.2.2 ≤ b.2) ∧ Met l yX4_readExpression (Cond.code yX4_readExpression cX4_readExpression 2 none :: v_CLS) ({ frames := d + 16, cells := b.1 - p.2.2.1, slots := b.2 - p.2.2.2, locals := 26 * d + 286 }) (hp_Pc D vwCl (hp_Tl cA) E sz (cd_pic cA ad ca σ) [.ref (ad 4 0), .int a1]) (hp_Qv D vwCl (hp_Tl cA) sz (cd_pic cA ad ca σ) (fun u => ∃ ca1, cd_inj ad ca1 ∧ u = cd_pic cA ad ca1 p.2.1)) (b.1 - p.2.2.1) (b.2 - p.2.2.2) (hp_A (cd_pic cA ad ca σ) sz)) (σ0 : cd_S) (b0 : cd_B) (a1 : Int32) (a2 : Int32) (p : (Int32 × cd_S × cd_B)) (h : f_X4_readAsking n rec σ0 b0 a1 a2 = some (Sum.inl p)) : (p.2.2.1 ≤ b0.1 ∧ p.2.2.2 ≤ b0.2) ∧ Met l yX4_readAsking (Cond.code yX4_readAsking cX4_readAsking 4 none :: v_CLS) ({ frames := (d + 1) + 16, cells := b0.1 - p.2.2.1, slots := b0.2 - p.2.2.2, locals := 26 * (d + 1) + 286 }) (hp_Pc D vwCl (hp_Tl cA) E sz (cd_pic cA ad ca0 σ0) [.ref (ad 4 0), .int a1, .int a2]) (hp_Qv D vwCl (hp_Tl cA) sz (cd_pic cA ad ca0 σ0) (fun u => ∃ ca1, cd_inj ad ca1 ∧ u = cd_pic cA ad ca1 p.2.1)) (b0.1 - p.2.2.1) (b0.2 - p.2.2.2) (hp_A (cd_pic cA ad ca0 σ0) sz) := by
  obtain ⟨hm0, hn0, h⟩ := cd_cks h
  have hM0 : p.2.2.1 ≤ b0.1 ∧ p.2.2.2 ≤ b0.2 := ⟨hm0, hn0⟩
  refine ⟨hM0, ?_⟩
  refine hp_ofW (cc := cX4_readAsking) (maxL := 4) (ret := none) (by decide) rfl (Nat.le_of_ble_eq_true rfl) ?_
  intro pp ee ss mm bb mt cd ls cx hsz hw hl
  have hl : lv_has ls 4 [(0, .ref (ad 4 0)), (1, .int a1), (2, .int a2)] := hl
  refine W.widen (k := b0.1 - b0.1) (n := b0.2 - b0.2) (Nat.zero_le _) (Nat.zero_le _) ?_
  have J129 : ∀ (ca : Nat → Nat) (hj : cd_inj ad ca) (σ : cd_S) (b : cd_B) (l1 : Int32) (l3 : Int32) (H : Heap) (locs : List Loc) (ls : Array Slot), b.1 ≤ b0.1 → b.2 ≤ b0.2 → p.2.2.1 ≤ b.1 → p.2.2.2 ≤ b.2 → f_X4_readAsking_J129 n rec σ b l1 l3 = some (Sum.inl p) → hp_w D vwCl (hp_Tl cA) E (hp_A (cd_pic cA ad ca0 σ0) sz) ss H locs (cd_pic cA ad ca σ) → lv_has ls 4 [(0, .ref (ad 4 0)), (1, .int l1), (3, .int l3)] → W pp l ee ({ frames := (d + 1) + 16, cells := b0.1 - p.2.2.1, slots := b0.2 - p.2.2.2, locals := 26 * (d + 1) + 286 }) ss mm [.ref (ad 4 0), .int a1, .int a2].toArray bb mt cd H locs (b0.1 - b.1) (b0.2 - b.2) (MQ bb (hp_Qv D vwCl (hp_Tl cA) sz (cd_pic cA ad ca0 σ0) (fun u => ∃ ca1, cd_inj ad ca1 ∧ u = cd_pic cA ad ca1 p.2.1)) [.ref (ad 4 0), .int a1, .int a2].toArray ss (b0.1 - p.2.2.1) (b0.2 - p.2.2.2) (hp_A (cd_pic cA ad ca0 σ0) sz)) (F0 mm 129 ls []) := by
    intro ca hj σ b l1 l3 H locs ls hb1 hb2 hf1 hf2 h hw hl
    refine lv_aload_n cx.1 cx.2.1 dX4_readAsking_129 rfl (lv_at hl 0 rfl) ?_
    obtain ⟨u1, e_u1, h⟩ := md_ob h
    have hb_u1 : u1 < 60 := (cd_dps e_u1).2
    refine cd_gP (o2 := 9) (u := u1) (o := 4) (k := 8) (f := 136) hj cx hw hic4 rfl ⟨by decide, rfl, by decide, rfl⟩ rfl (by decide) rfl e_u1 (List.mem_cons_of_mem _ cm_749) dX4_readAsking_130 ?_
    refine lv_iload_n cx.1 cx.2.1 dX4_readAsking_133 rfl (lv_at hl 1 rfl) ?_
    refine lv_iload_n cx.1 cx.2.1 dX4_readAsking_134 rfl (lv_at hl 2 rfl) ?_
    refine lv_iconst (v := 0) cx.1 cx.2.1 dX4_readAsking_135 (by decide) ?_
    obtain ⟨p2, e_p2, h⟩ := md_ob h
    obtain ⟨hm3, hn3, h⟩ := cd_cks h
    have hM3 : p.2.2.1 ≤ p2.2.2.1 ∧ p.2.2.2 ≤ p2.2.2.2 := ⟨hm3, hn3⟩
    have hle2 := (kc_X9_emit l D cA E sz ad _ hj oq sgq sgv hE n σ b u1 l1 l3 (0 : Int32) (show _ < 60 by omega) p2 e_p2).1
    refine hp_callVv (As := [.int l1, .int l3, .int 0]) (rest := []) cx hw ((kc_X9_emit l D cA E _ ad _ hj oq sgq sgv hE n σ b u1 l1 l3 (0 : Int32) (show _ < 60 by omega) p2 e_p2).2) (cwV 3 cx.2.2.2.2.2.1 (cd_giV cm_781 cm_782 cm_783 cm_114 cm_784) rfl rfl rfl hdc_X9_emit ⟨by (try dsimp only); omega, by (try dsimp only); omega⟩) (cd_atO hj (by decide) (show _ < 60 by omega)) rfl rfl hl.1 rfl (Nat.le_of_ble_eq_true rfl) dX4_readAsking_136 ⟨by (try dsimp only); omega, by (try dsimp only); omega⟩ (fun u H locs hp hw => ?_)
    obtain ⟨ca, hj, rfl⟩ := hp
    refine W.widen (k := b0.1 - p2.2.2.1) (n := b0.2 - p2.2.2.2) (by omega) (by omega) ?_
    exact hp_vret cx hw ((cd_retb hj (congrArg some (Sum.inl.inj (Option.some.inj h)))).2) dX4_readAsking_139 (cd_le1 (congrArg some (Sum.inl.inj (Option.some.inj h)))) (cd_le2 (congrArg some (Sum.inl.inj (Option.some.inj h))))
  have J22 : ∀ (ca : Nat → Nat) (hj : cd_inj ad ca) (σ : cd_S) (b : cd_B) (l1 : Int32) (l2 : Int32) (t0 : Int32) (H : Heap) (locs : List Loc) (ls : Array Slot), b.1 ≤ b0.1 → b.2 ≤ b0.2 → p.2.2.1 ≤ b.1 → p.2.2.2 ≤ b.2 → f_X4_readAsking_J22 n rec σ b l1 l2 t0 = some (Sum.inl p) → hp_w D vwCl (hp_Tl cA) E (hp_A (cd_pic cA ad ca0 σ0) sz) ss H locs (cd_pic cA ad ca σ) → lv_has ls 4 [(0, .ref (ad 4 0)), (1, .int l1), (2, .int l2)] → W pp l ee ({ frames := (d + 1) + 16, cells := b0.1 - p.2.2.1, slots := b0.2 - p.2.2.2, locals := 26 * (d + 1) + 286 }) ss mm [.ref (ad 4 0), .int a1, .int a2].toArray bb mt cd H locs (b0.1 - b.1) (b0.2 - b.2) (MQ bb (hp_Qv D vwCl (hp_Tl cA) sz (cd_pic cA ad ca0 σ0) (fun u => ∃ ca1, cd_inj ad ca1 ∧ u = cd_pic cA ad ca1 p.2.1)) [.ref (ad 4 0), .int a1, .int a2].toArray ss (b0.1 - p.2.2.1) (b0.2 - p.2.2.2) (hp_A (cd_pic cA ad ca0 σ0) sz)) (F0 mm 22 ls [.int t0, .ref (ad 4 0)]) := by
    intro ca hj σ b l1 l2 t0 H locs ls hb1 hb2 hf1 hf2 h hw hl
    obtain ⟨q4, e_q4, h⟩ := md_ob h
    obtain ⟨hm5, hn5, h⟩ := cd_cks h
    have hM5 : p.2.2.1 ≤ (Sum.elim (fun (p : Int32 × cd_S × cd_B) => p.2.2) (fun (t : cd_S × cd_B) => t.2) q4).1 ∧ p.2.2.2 ≤ (Sum.elim (fun (p : Int32 × cd_S × cd_B) => p.2.2) (fun (t : cd_S × cd_B) => t.2) q4).2 := ⟨hm5, hn5⟩
    cases q4 with
    | inr t4 =>
      exact nomatch Option.some.inj h
    | inl p4 =>
      have hle4 := (kc_X4_room l D cA E sz ad _ hj oq sgq sgv hE n σ b t0 p4 e_q4).1
      have hM10005 : p.2.2.1 ≤ p4.2.2.1 ∧ p.2.2.2 ≤ p4.2.2.2 := hM5
      have h := cd_inl h
      refine hp_callVv (As := [.int t0]) (rest := []) cx hw ((kc_X4_room l D cA E _ ad _ hj oq sgq sgv hE n σ b t0 p4 e_q4).2) (cwV 1 cx.2.2.2.2.2.1 (cd_giV cm_691 cm_692 cm_693 cm_663 cm_694) rfl rfl rfl hdc_X4_room ⟨by (try dsimp only); omega, by (try dsimp only); omega⟩) (cd_atO hj (by decide) (by decide)) rfl rfl hl.1 rfl (Nat.le_of_ble_eq_true rfl) dX4_readAsking_22 ⟨by (try dsimp only); omega, by (try dsimp only); omega⟩ (fun u H locs hp hw => ?_)
      obtain ⟨ca, hj, rfl⟩ := hp
      refine W.widen (k := b0.1 - p4.2.2.1) (n := b0.2 - p4.2.2.2) (by omega) (by omega) ?_
      refine lv_aload_n cx.1 cx.2.1 dX4_readAsking_25 rfl (lv_at hl 0 rfl) ?_
      refine cd_gO (o2 := 3) (e2 := 0) (o := 4) (k := 2) (f := 130) hj cx hw hic4 rfl ⟨by decide, rfl, by decide, rfl⟩ rfl (by decide) ⟨rfl, rfl⟩ (List.mem_cons_of_mem _ cm_701) dX4_readAsking_26 ?_
      refine cd_gI (o := 3) (k := 13) (f := 109) hj cx hw hic3 rfl ⟨by decide, rfl, by decide, rfl⟩ rfl (by decide) (List.mem_cons_of_mem _ cm_768) dX4_readAsking_29 ?_
      refine lv_istore_n (lv' := [(3, .int (cI p4.2.1 109 0)), (0, .ref (ad 4 0)), (1, .int l1), (2, .int l2)]) cx.1 cx.2.1 dX4_readAsking_32 rfl hl (by decide) rfl (fun ls hl => ?_)
      refine lv_aload_n cx.1 cx.2.1 dX4_readAsking_33 rfl (lv_at hl 1 rfl) ?_
      refine cd_gO (o2 := 3) (e2 := 0) (o := 4) (k := 2) (f := 130) hj cx hw hic4 rfl ⟨by decide, rfl, by decide, rfl⟩ rfl (by decide) ⟨rfl, rfl⟩ (List.mem_cons_of_mem _ cm_701) dX4_readAsking_34 ?_
      obtain ⟨p6, e_p6, h⟩ := md_ob h
      refine hp_callVv (As := []) (rest := []) cx hw (kc_X3_addAsking l D cA E _ ad _ hj oq sgq sgv hE n p4.2.1  p6 e_p6) (cwV 0 cx.2.2.2.2.2.1 (cd_giV cm_769 cm_770 cm_771 cm_332 cm_772) rfl rfl rfl hdc_X3_addAsking ⟨by (try dsimp only); omega, by (try dsimp only); omega⟩) (cd_atO hj (by decide) (by decide)) rfl rfl hl.1 rfl (Nat.le_of_ble_eq_true rfl) dX4_readAsking_37 ⟨by (try dsimp only); omega, by (try dsimp only); omega⟩ (fun u H locs hp hw => ?_)
      obtain ⟨ca, hj, rfl⟩ := hp
      refine lv_aload_n cx.1 cx.2.1 dX4_readAsking_40 rfl (lv_at hl 1 rfl) ?_
      refine cd_gO (o2 := 10) (e2 := 0) (o := 4) (k := 0) (f := 128) hj cx hw hic4 rfl ⟨by decide, rfl, by decide, rfl⟩ rfl (by decide) ⟨rfl, rfl⟩ (List.mem_cons_of_mem _ cm_658) dX4_readAsking_41 ?_
      obtain ⟨p7, e_p7, h⟩ := md_ob h
      refine hp_callVv (As := []) (rest := []) cx hw (kc_X10_advance l D cA E _ ad _ hj oq sgq sgv hE n p6.2  p7 e_p7) (cwV 0 cx.2.2.2.2.2.1 (cd_giV cm_670 cm_671 cm_672 cm_301 cm_673) rfl rfl rfl hdc_X10_advance ⟨by (try dsimp only); omega, by (try dsimp only); omega⟩) (cd_atO hj (by decide) (by decide)) rfl rfl hl.1 rfl (Nat.le_of_ble_eq_true rfl) dX4_readAsking_44 ⟨by (try dsimp only); omega, by (try dsimp only); omega⟩ (fun u H locs hp hw => ?_)
      obtain ⟨ca, hj, rfl⟩ := hp
      refine lv_aload_n cx.1 cx.2.1 dX4_readAsking_47 rfl (lv_at hl 1 rfl) ?_
      obtain ⟨q8, e_q8, h⟩ := md_ob h
      obtain ⟨hm9, hn9, h⟩ := cd_cks h
      have hM9 : p.2.2.1 ≤ (Sum.elim (fun (p : Int32 × cd_S × cd_B) => p.2.2) (fun (t : cd_S × cd_B) => t.2) q8).1 ∧ p.2.2.2 ≤ (Sum.elim (fun (p : Int32 × cd_S × cd_B) => p.2.2) (fun (t : cd_S × cd_B) => t.2) q8).2 := ⟨hm9, hn9⟩
      cases q8 with
      | inr t8 =>
        exact nomatch Option.some.inj h
      | inl p8 =>
        have hle8 := (kc_X4_needName l D cA E sz ad _ hj oq sgq sgv hE n p7.2 (p4.2.2)  p8 e_q8).1
        have hM10009 : p.2.2.1 ≤ p8.2.2.1 ∧ p.2.2.2 ≤ p8.2.2.2 := hM9
        have h := cd_inl h
        refine hp_callVv (As := []) (rest := []) cx hw ((kc_X4_needName l D cA E _ ad _ hj oq sgq sgv hE n p7.2 (p4.2.2)  p8 e_q8).2) (cwV 0 cx.2.2.2.2.2.1 (cd_giV cm_687 cm_688 cm_689 cm_663 cm_690) rfl rfl rfl hdc_X4_needName ⟨by (try dsimp only); omega, by (try dsimp only); omega⟩) (cd_atO hj (by decide) (by decide)) rfl rfl hl.1 rfl (Nat.le_of_ble_eq_true rfl) dX4_readAsking_48 ⟨by (try dsimp only); omega, by (try dsimp only); omega⟩ (fun u H locs hp hw => ?_)
        obtain ⟨ca, hj, rfl⟩ := hp
        refine W.widen (k := b0.1 - p8.2.2.1) (n := b0.2 - p8.2.2.2) (by omega) (by omega) ?_
        refine lv_aload_n cx.1 cx.2.1 dX4_readAsking_51 rfl (lv_at hl 1 rfl) ?_
        refine cd_gO (o2 := 5) (e2 := 193) (o := 4) (k := 3) (f := 131) hj cx hw hic4 rfl ⟨by decide, rfl, by decide, rfl⟩ rfl (by decide) ⟨rfl, rfl⟩ (List.mem_cons_of_mem _ cm_682) dX4_readAsking_52 ?_
        refine lv_aload_n cx.1 cx.2.1 dX4_readAsking_55 rfl (lv_at hl 1 rfl) ?_
        refine cd_gO (o2 := 10) (e2 := 0) (o := 4) (k := 0) (f := 128) hj cx hw hic4 rfl ⟨by decide, rfl, by decide, rfl⟩ rfl (by decide) ⟨rfl, rfl⟩ (List.mem_cons_of_mem _ cm_658) dX4_readAsking_56 ?_
        refine cd_gJ (o := 10) (k := 10) (f := 330) hj cx hw hic10 rfl ⟨by decide, rfl, by decide, rfl⟩ rfl (by decide) (List.mem_cons_of_mem _ cm_695) dX4_readAsking_59 ?_
        obtain ⟨σ10, e_σ10, h⟩ := md_ob h
        refine cd_pJ (o := 5) (k := 0) (f := 160) hj cx hw hic5 rfl ⟨by decide, rfl, by decide, rfl⟩ tyX5_ok nmX5 rfl (by decide) rfl (List.mem_cons_of_mem _ cm_696) rfl e_σ10 dX4_readAsking_62 (fun H locs hw => ?_)
        refine lv_aload_n cx.1 cx.2.1 dX4_readAsking_65 rfl (lv_at hl 1 rfl) ?_
        refine cd_gO (o2 := 10) (e2 := 0) (o := 4) (k := 0) (f := 128) hj cx hw hic4 rfl ⟨by decide, rfl, by decide, rfl⟩ rfl (by decide) ⟨rfl, rfl⟩ (List.mem_cons_of_mem _ cm_658) dX4_readAsking_66 ?_
        obtain ⟨p11, e_p11, h⟩ := md_ob h
        refine hp_callVv (As := []) (rest := []) cx hw (kc_X10_advance l D cA E _ ad _ hj oq sgq sgv hE n σ10  p11 e_p11) (cwV 0 cx.2.2.2.2.2.1 (cd_giV cm_670 cm_671 cm_672 cm_301 cm_673) rfl rfl rfl hdc_X10_advance ⟨by (try dsimp only); omega, by (try dsimp only); omega⟩) (cd_atO hj (by decide) (by decide)) rfl rfl hl.1 rfl (Nat.le_of_ble_eq_true rfl) dX4_readAsking_69 ⟨by (try dsimp only); omega, by (try dsimp only); omega⟩ (fun u H locs hp hw => ?_)
        obtain ⟨ca, hj, rfl⟩ := hp
        refine lv_aload_n cx.1 cx.2.1 dX4_readAsking_72 rfl (lv_at hl 1 rfl) ?_
        refine lv_iconst (v := 1) cx.1 cx.2.1 dX4_readAsking_73 (by decide) ?_
        obtain ⟨q12, e_q12, h⟩ := md_ob h
        obtain ⟨hm13, hn13, h⟩ := cd_cks h
        have hM13 : p.2.2.1 ≤ (Sum.elim (fun (p : Int32 × cd_S × cd_B) => p.2.2) (fun (t : cd_S × cd_B) => t.2) q12).1 ∧ p.2.2.2 ≤ (Sum.elim (fun (p : Int32 × cd_S × cd_B) => p.2.2) (fun (t : cd_S × cd_B) => t.2) q12).2 := ⟨hm13, hn13⟩
        cases q12 with
        | inr t12 =>
          exact nomatch Option.some.inj h
        | inl p12 =>
          have hle12 := (kc_X4_takePattern l D cA E sz ad _ hj oq sgq sgv hE n p11.2 (p8.2.2) (1 : Int32) p12 e_q12).1
          have hM10013 : p.2.2.1 ≤ p12.2.2.1 ∧ p.2.2.2 ≤ p12.2.2.2 := hM13
          have h := cd_inl h
          refine hp_callVv (As := [.int 1]) (rest := []) cx hw ((kc_X4_takePattern l D cA E _ ad _ hj oq sgq sgv hE n p11.2 (p8.2.2) (1 : Int32) p12 e_q12).2) (cwV 1 cx.2.2.2.2.2.1 (cd_giV cm_697 cm_698 cm_699 cm_663 cm_700) rfl rfl rfl hdc_X4_takePattern ⟨by (try dsimp only); omega, by (try dsimp only); omega⟩) (cd_atO hj (by decide) (by decide)) rfl rfl hl.1 rfl (Nat.le_of_ble_eq_true rfl) dX4_readAsking_74 ⟨by (try dsimp only); omega, by (try dsimp only); omega⟩ (fun u H locs hp hw => ?_)
          obtain ⟨ca, hj, rfl⟩ := hp
          refine W.widen (k := b0.1 - p12.2.2.1) (n := b0.2 - p12.2.2.2) (by omega) (by omega) ?_
          refine lv_aload_n cx.1 cx.2.1 dX4_readAsking_77 rfl (lv_at hl 1 rfl) ?_
          refine cd_gO (o2 := 3) (e2 := 0) (o := 4) (k := 2) (f := 130) hj cx hw hic4 rfl ⟨by decide, rfl, by decide, rfl⟩ rfl (by decide) ⟨rfl, rfl⟩ (List.mem_cons_of_mem _ cm_701) dX4_readAsking_78 ?_
          refine lv_iload_n cx.1 cx.2.1 dX4_readAsking_81 rfl (lv_at hl 0 rfl) ?_
          refine lv_aload_n cx.1 cx.2.1 dX4_readAsking_82 rfl (lv_at hl 1 rfl) ?_
          refine cd_gO (o2 := 5) (e2 := 193) (o := 4) (k := 3) (f := 131) hj cx hw hic4 rfl ⟨by decide, rfl, by decide, rfl⟩ rfl (by decide) ⟨rfl, rfl⟩ (List.mem_cons_of_mem _ cm_682) dX4_readAsking_83 ?_
          obtain ⟨p14, e_p14, h⟩ := md_ob h
          refine hp_callVv (As := [.int (cI p4.2.1 109 0), .ref (ad 5 193)]) (rest := []) cx hw (kc_X3_setAsking l D cA E _ ad _ hj oq sgq sgv hE n p12.2.1 ((cI p4.2.1 109 0)) 193 (by decide) p14 e_p14) (cwV 2 cx.2.2.2.2.2.1 (cd_giV cm_773 cm_774 cm_775 cm_332 cm_776) rfl rfl rfl hdc_X3_setAsking ⟨by (try dsimp only); omega, by (try dsimp only); omega⟩) (cd_atO hj (by decide) (by decide)) rfl rfl hl.1 rfl (Nat.le_of_ble_eq_true rfl) dX4_readAsking_86 ⟨by (try dsimp only); omega, by (try dsimp only); omega⟩ (fun u H locs hp hw => ?_)
          obtain ⟨ca, hj, rfl⟩ := hp
          refine lv_aload_n cx.1 cx.2.1 dX4_readAsking_89 rfl (lv_at hl 1 rfl) ?_
          refine cd_gO (o2 := 10) (e2 := 0) (o := 4) (k := 0) (f := 128) hj cx hw hic4 rfl ⟨by decide, rfl, by decide, rfl⟩ rfl (by decide) ⟨rfl, rfl⟩ (List.mem_cons_of_mem _ cm_658) dX4_readAsking_90 ?_
          refine cd_gI (o := 10) (k := 8) (f := 328) hj cx hw hic10 rfl ⟨by decide, rfl, by decide, rfl⟩ rfl (by decide) (List.mem_cons_of_mem _ cm_665) dX4_readAsking_93 ?_
          refine lv_bipush (v := 91) cx.1 cx.2.1 dX4_readAsking_96 (by decide) ?_
          refine lv_icmp_ne (tgt := 129) cx.1 cx.2.1 dX4_readAsking_98 (by decide) (fun c98 => ?_) (fun c98 => ?_)
          · have h := md_in c98 h
            exact J129 _ hj p14.2 (p12.2.2) l1 ((cI p4.2.1 109 0)) _ _ _ (by omega) (by omega) (by omega) (by omega) h hw (lv_sub hl [1, 2, 0] rfl)
          · have h := md_ip c98 h
            refine lv_aload_n cx.1 cx.2.1 dX4_readAsking_101 rfl (lv_at hl 1 rfl) ?_
            refine cd_gO (o2 := 3) (e2 := 0) (o := 4) (k := 2) (f := 130) hj cx hw hic4 rfl ⟨by decide, rfl, by decide, rfl⟩ rfl (by decide) ⟨rfl, rfl⟩ (List.mem_cons_of_mem _ cm_701) dX4_readAsking_102 ?_
            refine lv_iload_n cx.1 cx.2.1 dX4_readAsking_105 rfl (lv_at hl 0 rfl) ?_
            obtain ⟨p15, e_p15, h⟩ := md_ob h
            refine hp_callVv (As := [.int (cI p4.2.1 109 0)]) (rest := []) cx hw (kc_X3_setIndexed l D cA E _ ad _ hj oq sgq sgv hE n p14.2 ((cI p4.2.1 109 0)) p15 e_p15) (cwV 1 cx.2.2.2.2.2.1 (cd_giV cm_777 cm_778 cm_779 cm_332 cm_780) rfl rfl rfl hdc_X3_setIndexed ⟨by (try dsimp only); omega, by (try dsimp only); omega⟩) (cd_atO hj (by decide) (by decide)) rfl rfl hl.1 rfl (Nat.le_of_ble_eq_true rfl) dX4_readAsking_106 ⟨by (try dsimp only); omega, by (try dsimp only); omega⟩ (fun u H locs hp hw => ?_)
            obtain ⟨ca, hj, rfl⟩ := hp
            refine lv_aload_n cx.1 cx.2.1 dX4_readAsking_109 rfl (lv_at hl 1 rfl) ?_
            refine cd_gO (o2 := 10) (e2 := 0) (o := 4) (k := 0) (f := 128) hj cx hw hic4 rfl ⟨by decide, rfl, by decide, rfl⟩ rfl (by decide) ⟨rfl, rfl⟩ (List.mem_cons_of_mem _ cm_658) dX4_readAsking_110 ?_
            obtain ⟨p16, e_p16, h⟩ := md_ob h
            refine hp_callVv (As := []) (rest := []) cx hw (kc_X10_advance l D cA E _ ad _ hj oq sgq sgv hE n p15.2  p16 e_p16) (cwV 0 cx.2.2.2.2.2.1 (cd_giV cm_670 cm_671 cm_672 cm_301 cm_673) rfl rfl rfl hdc_X10_advance ⟨by (try dsimp only); omega, by (try dsimp only); omega⟩) (cd_atO hj (by decide) (by decide)) rfl rfl hl.1 rfl (Nat.le_of_ble_eq_true rfl) dX4_readAsking_113 ⟨by (try dsimp only); omega, by (try dsimp only); omega⟩ (fun u H locs hp hw => ?_)
            obtain ⟨ca, hj, rfl⟩ := hp
            refine lv_aload_n cx.1 cx.2.1 dX4_readAsking_116 rfl (lv_at hl 1 rfl) ?_
            refine lv_iload_n cx.1 cx.2.1 dX4_readAsking_117 rfl (lv_at hl 3 rfl) ?_
            refine lv_iconst (v := 1) cx.1 cx.2.1 dX4_readAsking_118 (by decide) ?_
            refine lv_iadd cx.1 cx.2.1 dX4_readAsking_119 ?_
            obtain ⟨q17, e_q17, h⟩ := md_ob h
            obtain ⟨hm18, hn18, h⟩ := cd_cks h
            have hM18 : p.2.2.1 ≤ (Sum.elim (fun (p : Int32 × cd_S × cd_B) => p.2.2) (fun (t : cd_S × cd_B) => t.2) q17).1 ∧ p.2.2.2 ≤ (Sum.elim (fun (p : Int32 × cd_S × cd_B) => p.2.2) (fun (t : cd_S × cd_B) => t.2) q17).2 := ⟨hm18, hn18⟩
            cases q17 with
            | inr t17 =>
              exact nomatch Option.some.inj h
            | inl p17 =>
              have hle17 := (in0 sz _ hj p16.2 (p12.2.2) ((l2 + 1)) p17 e_q17).1
              have hM10018 : p.2.2.1 ≤ p17.2.2.1 ∧ p.2.2.2 ≤ p17.2.2.2 := hM18
              have h := cd_inl h
              refine hp_callVv (As := [.int (l2 + 1)]) (rest := []) cx hw ((in0 _ _ hj p16.2 (p12.2.2) ((l2 + 1)) p17 e_q17).2) (cwV 1 cx.2.2.2.2.2.1 (cd_giV cm_760 cm_761 cm_762 cm_663 cm_763) rfl rfl rfl hdc_X4_readExpression ⟨by (try dsimp only); omega, by (try dsimp only); omega⟩) (cd_atO hj (by decide) (by decide)) rfl rfl hl.1 rfl (Nat.le_of_ble_eq_true rfl) dX4_readAsking_120 ⟨by (try dsimp only); omega, by (try dsimp only); omega⟩ (fun u H locs hp hw => ?_)
              obtain ⟨ca, hj, rfl⟩ := hp
              refine W.widen (k := b0.1 - p17.2.2.1) (n := b0.2 - p17.2.2.2) (by omega) (by omega) ?_
              refine lv_aload_n cx.1 cx.2.1 dX4_readAsking_123 rfl (lv_at hl 1 rfl) ?_
              refine lv_bipush (v := 93) cx.1 cx.2.1 dX4_readAsking_124 (by decide) ?_
              obtain ⟨q19, e_q19, h⟩ := md_ob h
              obtain ⟨hm20, hn20, h⟩ := cd_cks h
              have hM20 : p.2.2.1 ≤ (Sum.elim (fun (p : Int32 × cd_S × cd_B) => p.2.2) (fun (t : cd_S × cd_B) => t.2) q19).1 ∧ p.2.2.2 ≤ (Sum.elim (fun (p : Int32 × cd_S × cd_B) => p.2.2) (fun (t : cd_S × cd_B) => t.2) q19).2 := ⟨hm20, hn20⟩
              cases q19 with
              | inr t19 =>
                exact nomatch Option.some.inj h
              | inl p19 =>
                have hle19 := (kc_X4_pass l D cA E sz ad _ hj oq sgq sgv hE n p17.2.1 (p17.2.2) (93 : Int32) p19 e_q19).1
                have hM10020 : p.2.2.1 ≤ p19.2.2.1 ∧ p.2.2.2 ≤ p19.2.2.2 := hM20
                have h := cd_inl h
                refine hp_callVv (As := [.int 93]) (rest := []) cx hw ((kc_X4_pass l D cA E _ ad _ hj oq sgq sgv hE n p17.2.1 (p17.2.2) (93 : Int32) p19 e_q19).2) (cwV 1 cx.2.2.2.2.2.1 (cd_giV cm_714 cm_715 cm_716 cm_663 cm_717) rfl rfl rfl hdc_X4_pass ⟨by (try dsimp only); omega, by (try dsimp only); omega⟩) (cd_atO hj (by decide) (by decide)) rfl rfl hl.1 rfl (Nat.le_of_ble_eq_true rfl) dX4_readAsking_126 ⟨by (try dsimp only); omega, by (try dsimp only); omega⟩ (fun u H locs hp hw => ?_)
                obtain ⟨ca, hj, rfl⟩ := hp
                refine W.widen (k := b0.1 - p19.2.2.1) (n := b0.2 - p19.2.2.2) (by omega) (by omega) ?_
                exact J129 _ hj p19.2.1 (p19.2.2) l1 ((cI p4.2.1 109 0)) _ _ _ (by omega) (by omega) (by omega) (by omega) h hw (lv_sub hl [1, 2, 0] rfl)
  refine lv_aload_n cx.1 cx.2.1 dX4_readAsking_0 rfl (lv_at hl 0 rfl) ?_
  obtain ⟨q21, e_q21, h⟩ := md_ob h
  obtain ⟨hm22, hn22, h⟩ := cd_cks h
  have hM22 : p.2.2.1 ≤ (Sum.elim (fun (p : Int32 × cd_S × cd_B) => p.2.2) (fun (t : cd_S × cd_B) => t.2) q21).1 ∧ p.2.2.2 ≤ (Sum.elim (fun (p : Int32 × cd_S × cd_B) => p.2.2) (fun (t : cd_S × cd_B) => t.2) q21).2 := ⟨hm22, hn22⟩
  cases q21 with
  | inr t21 =>
    exact nomatch Option.some.inj h
  | inl p21 =>
    have hle21 := (kc_X4_part l D cA E sz ad _ hj oq sgq sgv hE n σ0 b0  p21 e_q21).1
    have hM10022 : p.2.2.1 ≤ p21.2.2.1 ∧ p.2.2.2 ≤ p21.2.2.2 := hM22
    have h := cd_inl h
    refine hp_callVv (As := []) (rest := []) cx hw ((kc_X4_part l D cA E _ ad _ hj oq sgq sgv hE n σ0 b0  p21 e_q21).2) (cwV 0 cx.2.2.2.2.2.1 (cd_giV cm_764 cm_765 cm_766 cm_663 cm_767) rfl rfl rfl hdc_X4_part ⟨by (try dsimp only); omega, by (try dsimp only); omega⟩) (cd_atO hj (by decide) (by decide)) rfl rfl hl.1 rfl (Nat.le_of_ble_eq_true rfl) dX4_readAsking_1 ⟨by (try dsimp only); omega, by (try dsimp only); omega⟩ (fun u H locs hp hw => ?_)
    obtain ⟨ca, hj, rfl⟩ := hp
    refine W.widen (k := b0.1 - p21.2.2.1) (n := b0.2 - p21.2.2.2) (by omega) (by omega) ?_
    refine lv_aload_n cx.1 cx.2.1 dX4_readAsking_4 rfl (lv_at hl 0 rfl) ?_
    refine lv_aload_n cx.1 cx.2.1 dX4_readAsking_5 rfl (lv_at hl 0 rfl) ?_
    refine cd_gO (o2 := 3) (e2 := 0) (o := 4) (k := 2) (f := 130) hj cx hw hic4 rfl ⟨by decide, rfl, by decide, rfl⟩ rfl (by decide) ⟨rfl, rfl⟩ (List.mem_cons_of_mem _ cm_701) dX4_readAsking_6 ?_
    refine cd_gI (o := 3) (k := 13) (f := 109) hj cx hw hic3 rfl ⟨by decide, rfl, by decide, rfl⟩ rfl (by decide) (List.mem_cons_of_mem _ cm_768) dX4_readAsking_9 ?_
    refine lv_bipush (v := 24) cx.1 cx.2.1 dX4_readAsking_12 (by decide) ?_
    refine lv_icmp_ge (tgt := 21) cx.1 cx.2.1 dX4_readAsking_14 (by decide) (fun c14 => ?_) (fun c14 => ?_)
    · have h := md_ip c14 h
      refine lv_iconst (v := 0) cx.1 cx.2.1 dX4_readAsking_21 (by decide) ?_
      exact J22 _ hj p21.2.1 (p21.2.2) a1 a2 0 _ _ _ (by omega) (by omega) (by omega) (by omega) h hw (lv_sub hl [0, 1, 2] rfl)
    · have h := md_in c14 h
      refine lv_iconst (v := 1) cx.1 cx.2.1 dX4_readAsking_17 (by decide) ?_
      refine lv_goto (tgt := 22) cx.1 cx.2.1 dX4_readAsking_18 (by decide) ?_
      exact J22 _ hj p21.2.1 (p21.2.2) a1 a2 1 _ _ _ (by omega) (by omega) (by omega) (by omega) h hw (lv_sub hl [0, 1, 2] rfl)
set_option maxHeartbeats 4000000 in
set_option maxRecDepth 100000 in
theorem kc_X4_closeInner (l : Launch) (D : va_G) (cA : Nat → ClassId) (E : hp_N) (sz : Nat) (ad : Nat → Nat → Nat) (ca0 : Nat → Nat) (hj : cd_inj ad ca0) (oq sgq sgv : Nat) (hE : cd_E E oq sgq sgv) (n : Nat) (σ0 : cd_S) (b0 : cd_B) (a1 : Nat) (a2 : Int32) (hb_a1 : a1 < 60) (p : (Int32 × cd_S × cd_B)) (h : f_X4_closeInner n σ0 b0 a1 a2 = some p) : (p.2.2.1 ≤ b0.1 ∧ p.2.2.2 ≤ b0.2) ∧ Met l yX4_closeInner (Cond.code yX4_closeInner cX4_closeInner 4 none :: v_CLS) ({ frames := 5, cells := b0.1 - p.2.2.1, slots := b0.2 - p.2.2.2, locals := 134 }) (hp_Pc D vwCl (hp_Tl cA) E sz (cd_pic cA ad ca0 σ0) [.ref (ad 4 0), .ref (ad 9 a1), .int a2]) (hp_Qv D vwCl (hp_Tl cA) sz (cd_pic cA ad ca0 σ0) (fun u => ∃ ca1, cd_inj ad ca1 ∧ u = cd_pic cA ad ca1 p.2.1)) (b0.1 - p.2.2.1) (b0.2 - p.2.2.2) (hp_A (cd_pic cA ad ca0 σ0) sz) := by
  obtain ⟨hm0, hn0, h⟩ := cd_cks h
  have hM0 : p.2.2.1 ≤ b0.1 ∧ p.2.2.2 ≤ b0.2 := ⟨hm0, hn0⟩
  refine ⟨hM0, ?_⟩
  refine hp_ofW (cc := cX4_closeInner) (maxL := 4) (ret := none) (by decide) rfl (Nat.le_of_ble_eq_true rfl) ?_
  intro pp ee ss mm bb mt cd ls cx hsz hw hl
  have hl : lv_has ls 4 [(0, .ref (ad 4 0)), (1, .ref (ad 9 a1)), (2, .int a2)] := hl
  refine W.widen (k := b0.1 - b0.1) (n := b0.2 - b0.2) (Nat.zero_le _) (Nat.zero_le _) ?_
  refine lv_aload_n cx.1 cx.2.1 dX4_closeInner_0 rfl (lv_at hl 1 rfl) ?_
  refine lv_bipush (v := 28) cx.1 cx.2.1 dX4_closeInner_1 (by decide) ?_
  refine lv_iconst (v := 0) cx.1 cx.2.1 dX4_closeInner_3 (by decide) ?_
  refine lv_iconst (v := 0) cx.1 cx.2.1 dX4_closeInner_4 (by decide) ?_
  obtain ⟨p1, e_p1, h⟩ := md_ob h
  obtain ⟨hm2, hn2, h⟩ := cd_cks h
  have hM2 : p.2.2.1 ≤ p1.2.2.1 ∧ p.2.2.2 ≤ p1.2.2.2 := ⟨hm2, hn2⟩
  have hle1 := (kc_X9_emit l D cA E sz ad _ hj oq sgq sgv hE n σ0 b0 a1 (28 : Int32) (0 : Int32) (0 : Int32) (show _ < 60 by omega) p1 e_p1).1
  refine hp_callVv (As := [.int 28, .int 0, .int 0]) (rest := []) cx hw ((kc_X9_emit l D cA E _ ad _ hj oq sgq sgv hE n σ0 b0 a1 (28 : Int32) (0 : Int32) (0 : Int32) (show _ < 60 by omega) p1 e_p1).2) (cwV 3 cx.2.2.2.2.2.1 (cd_giV cm_781 cm_782 cm_783 cm_114 cm_784) rfl rfl rfl hdc_X9_emit ⟨Nat.le_of_ble_eq_true rfl, Nat.le_of_ble_eq_true rfl⟩) (cd_atO hj (by decide) (show _ < 60 by omega)) rfl rfl hl.1 rfl (Nat.le_of_ble_eq_true rfl) dX4_closeInner_5 ⟨by (try dsimp only); omega, by (try dsimp only); omega⟩ (fun u H locs hp hw => ?_)
  obtain ⟨ca, hj, rfl⟩ := hp
  refine W.widen (k := b0.1 - p1.2.2.1) (n := b0.2 - p1.2.2.2) (by omega) (by omega) ?_
  refine lv_aload_n cx.1 cx.2.1 dX4_closeInner_8 rfl (lv_at hl 0 rfl) ?_
  refine lv_aload_n cx.1 cx.2.1 dX4_closeInner_9 rfl (lv_at hl 0 rfl) ?_
  refine cd_gO (o2 := 2) (e2 := 0) (o := 4) (k := 1) (f := 129) hj cx hw hic4 rfl ⟨by decide, rfl, by decide, rfl⟩ rfl (by decide) ⟨rfl, rfl⟩ (List.mem_cons_of_mem _ cm_722) dX4_closeInner_10 ?_
  refine lv_aload_n cx.1 cx.2.1 dX4_closeInner_13 rfl (lv_at hl 1 rfl) ?_
  refine cd_gI (o := 9) (k := 7) (f := 295) hj cx hw hic9 rfl ⟨by decide, rfl, by decide, rfl⟩ rfl (show _ < 60 by omega) (List.mem_cons_of_mem _ cm_751) dX4_closeInner_14 ?_
  obtain ⟨p3, e_p3, h⟩ := md_ob h
  refine hp_callVr (As := [.int (cI p1.2.1 295 a1)]) (rest := [.ref (ad 4 0)]) cx hw (kc_X2_unitAt l D cA E _ ad _ hj oq sgq sgv hE n p1.2.1 ((cI p1.2.1 295 a1)) p3 e_p3) (cwV 1 cx.2.2.2.2.2.1 (cd_giV cm_785 cm_285 cm_286 cm_167 cm_287) rfl rfl rfl hdc_X2_unitAt ⟨Nat.le_of_ble_eq_true rfl, Nat.le_of_ble_eq_true rfl⟩) (cd_atO hj (by decide) (by decide)) rfl rfl hl.1 rfl (Nat.le_of_ble_eq_true rfl) dX4_closeInner_17 ⟨by (try dsimp only); omega, by (try dsimp only); omega⟩ (fun r u H locs hp hw => ?_)
  obtain ⟨⟨hb_p3, rfl⟩, ca, hj, rfl⟩ := hp
  obtain ⟨σ4, e_σ4, h⟩ := md_ob h
  refine cd_pP (u := p3.1) (o2 := 9) (o := 4) (k := 8) (f := 136) hj cx hw hic4 rfl ⟨by decide, rfl, by decide, rfl⟩ tyX4_ok nmX4 rfl (by decide) rfl (List.mem_cons_of_mem _ cm_749) rfl rfl e_σ4 dX4_closeInner_20 (fun H locs hw => ?_)
  refine lv_iconst (v := 0) cx.1 cx.2.1 dX4_closeInner_23 (by decide) ?_
  refine lv_istore_n (lv' := [(3, .int 0), (0, .ref (ad 4 0)), (1, .ref (ad 9 a1)), (2, .int a2)]) cx.1 cx.2.1 dX4_closeInner_24 rfl hl (by decide) rfl (fun ls hl => ?_)
  have L25 : ∀ (j : Nat) (ca : Nat → Nat) (hj : cd_inj ad ca) (σ : cd_S) (b : cd_B) (l2 : Int32) (l3 : Int32) (q : (cd_S × cd_B × Int32)) (H : Heap) (locs : List Loc) (ls : Array Slot), b.1 ≤ b0.1 → b.2 ≤ b0.2 → p.2.2.1 ≤ b.1 → p.2.2.2 ≤ b.2 → p.2.2.1 ≤ q.2.1.1 → p.2.2.2 ≤ q.2.1.2 → f_X4_closeInner_L25 n a1 l2 j σ b l3 = some q → hp_w D vwCl (hp_Tl cA) E (hp_A (cd_pic cA ad ca0 σ0) sz) ss H locs (cd_pic cA ad ca σ) → lv_has ls 4 [(0, .ref (ad 4 0)), (1, .ref (ad 9 a1)), (2, .int l2), (3, .int l3)] → (∀ (ca : Nat → Nat) (hj : cd_inj ad ca) (H : Heap) (locs : List Loc) (ls : Array Slot), q.2.1.1 ≤ b0.1 → q.2.1.2 ≤ b0.2 → hp_w D vwCl (hp_Tl cA) E (hp_A (cd_pic cA ad ca0 σ0) sz) ss H locs (cd_pic cA ad ca q.1) → lv_has ls 4 [(0, .ref (ad 4 0)), (1, .ref (ad 9 a1)), (2, .int l2)] → W pp l ee ({ frames := 5, cells := b0.1 - p.2.2.1, slots := b0.2 - p.2.2.2, locals := 134 }) ss mm [.ref (ad 4 0), .ref (ad 9 a1), .int a2].toArray bb mt cd H locs (b0.1 - q.2.1.1) (b0.2 - q.2.1.2) (MQ bb (hp_Qv D vwCl (hp_Tl cA) sz (cd_pic cA ad ca0 σ0) (fun u => ∃ ca1, cd_inj ad ca1 ∧ u = cd_pic cA ad ca1 p.2.1)) [.ref (ad 4 0), .ref (ad 9 a1), .int a2].toArray ss (b0.1 - p.2.2.1) (b0.2 - p.2.2.2) (hp_A (cd_pic cA ad ca0 σ0) sz)) (F0 mm 54 ls [])) → W pp l ee ({ frames := 5, cells := b0.1 - p.2.2.1, slots := b0.2 - p.2.2.2, locals := 134 }) ss mm [.ref (ad 4 0), .ref (ad 9 a1), .int a2].toArray bb mt cd H locs (b0.1 - b.1) (b0.2 - b.2) (MQ bb (hp_Qv D vwCl (hp_Tl cA) sz (cd_pic cA ad ca0 σ0) (fun u => ∃ ca1, cd_inj ad ca1 ∧ u = cd_pic cA ad ca1 p.2.1)) [.ref (ad 4 0), .ref (ad 9 a1), .int a2].toArray ss (b0.1 - p.2.2.1) (b0.2 - p.2.2.2) (hp_A (cd_pic cA ad ca0 σ0) sz)) (F0 mm 25 ls []) := by
    intro j
    induction j with
    | zero => intro ca hj σ b l2 l3 q H locs ls hb1 hb2 hf1 hf2 hq1 hq2 h; exact nomatch h
    | succ j ih =>
      intro ca hj σ b l2 l3 q H locs ls hb1 hb2 hf1 hf2 hq1 hq2 h hw hl K
      unfold f_X4_closeInner_L25 at h
      refine lv_iload_n cx.1 cx.2.1 dX4_closeInner_25 rfl (lv_at hl 3 rfl) ?_
      refine lv_aload_n cx.1 cx.2.1 dX4_closeInner_26 rfl (lv_at hl 1 rfl) ?_
      refine cd_gI (o := 9) (k := 11) (f := 299) hj cx hw hic9 rfl ⟨by decide, rfl, by decide, rfl⟩ rfl (show _ < 60 by omega) (List.mem_cons_of_mem _ cm_786) dX4_closeInner_27 ?_
      refine lv_icmp_ge (tgt := 54) cx.1 cx.2.1 dX4_closeInner_30 (by decide) (fun c30 => ?_) (fun c30 => ?_)
      · have h := md_ip c30 h
        obtain rfl := Option.some.inj h
        exact K _ hj _ _ _ (by (try dsimp only); omega) (by (try dsimp only); omega) hw (lv_sub hl [0, 1, 2] rfl)
      · have h := md_in c30 h
        refine lv_aload_n cx.1 cx.2.1 dX4_closeInner_33 rfl (lv_at hl 0 rfl) ?_
        obtain ⟨u5, e_u5, h⟩ := md_ob h
        have hb_u5 : u5 < 60 := (cd_dps e_u5).2
        refine cd_gP (o2 := 9) (u := u5) (o := 4) (k := 8) (f := 136) hj cx hw hic4 rfl ⟨by decide, rfl, by decide, rfl⟩ rfl (by decide) rfl e_u5 (List.mem_cons_of_mem _ cm_749) dX4_closeInner_34 ?_
        refine lv_iconst (v := 2) cx.1 cx.2.1 dX4_closeInner_37 (by decide) ?_
        refine lv_aload_n cx.1 cx.2.1 dX4_closeInner_38 rfl (lv_at hl 1 rfl) ?_
        refine cd_gA (o := 9) (k := 12) (f := 300) hj cx hw hic9 rfl ⟨by decide, rfl, by decide, rfl⟩ rfl (show _ < 60 by omega) (List.mem_cons_of_mem _ cm_787) dX4_closeInner_39 ?_
        refine lv_iload_n cx.1 cx.2.1 dX4_closeInner_42 rfl (lv_at hl 3 rfl) ?_
        obtain ⟨v6, e_v6, h⟩ := md_ob h
        refine cd_lI (f := 300) hj cx hw (by decide) (show _ < 60 by omega) rfl e_v6 dX4_closeInner_43 ?_
        refine lv_iconst (v := 0) cx.1 cx.2.1 dX4_closeInner_44 (by decide) ?_
        obtain ⟨p7, e_p7, h⟩ := md_ob h
        obtain ⟨hm8, hn8, h⟩ := cd_cks h
        have hM8 : p.2.2.1 ≤ p7.2.2.1 ∧ p.2.2.2 ≤ p7.2.2.2 := ⟨Nat.le_trans hq1 hm8, Nat.le_trans hq2 hn8⟩
        have hle7 := (kc_X9_emit l D cA E sz ad _ hj oq sgq sgv hE n σ b u5 (2 : Int32) v6 (0 : Int32) (show _ < 60 by omega) p7 e_p7).1
        refine hp_callVv (As := [.int 2, .int v6, .int 0]) (rest := []) cx hw ((kc_X9_emit l D cA E _ ad _ hj oq sgq sgv hE n σ b u5 (2 : Int32) v6 (0 : Int32) (show _ < 60 by omega) p7 e_p7).2) (cwV 3 cx.2.2.2.2.2.1 (cd_giV cm_781 cm_782 cm_783 cm_114 cm_784) rfl rfl rfl hdc_X9_emit ⟨Nat.le_of_ble_eq_true rfl, Nat.le_of_ble_eq_true rfl⟩) (cd_atO hj (by decide) (show _ < 60 by omega)) rfl rfl hl.1 rfl (Nat.le_of_ble_eq_true rfl) dX4_closeInner_45 ⟨by (try dsimp only); omega, by (try dsimp only); omega⟩ (fun u H locs hp hw => ?_)
        obtain ⟨ca, hj, rfl⟩ := hp
        refine W.widen (k := b0.1 - p7.2.2.1) (n := b0.2 - p7.2.2.2) (by omega) (by omega) ?_
        refine lv_iinc (v := (l3 + 1)) (lv' := [(3, .int (l3 + 1)), (0, .ref (ad 4 0)), (1, .ref (ad 9 a1)), (2, .int l2)]) cx.1 cx.2.1 dX4_closeInner_48 hl (k := 3) rfl rfl (by decide) rfl (fun ls hl => ?_)
        refine lv_goto (tgt := 25) cx.1 cx.2.1 dX4_closeInner_51 (by decide) ?_
        exact ih _ hj p7.2.1 (p7.2.2) l2 ((l3 + 1)) q _ _ _ (by omega) (by omega) (by omega) (by omega) hq1 hq2 h hw (lv_sub hl [1, 2, 3, 0] rfl) K
  obtain ⟨q9, e_q9, h⟩ := md_ob h
  obtain ⟨hm10, hn10, h⟩ := cd_cks h
  have hM10 : p.2.2.1 ≤ q9.2.1.1 ∧ p.2.2.2 ≤ q9.2.1.2 := ⟨hm10, hn10⟩
  refine L25 n _ hj σ4 (p1.2.2) a2 0 q9 _ _ _ (by omega) (by omega) (by omega) (by omega) hM10.1 hM10.2 e_q9 hw (lv_sub hl [1, 2, 3, 0] rfl) (fun ca hj H locs ls hb1 hb2 hw hl => ?_)
  refine lv_aload_n cx.1 cx.2.1 dX4_closeInner_54 rfl (lv_at hl 0 rfl) ?_
  obtain ⟨u11, e_u11, h⟩ := md_ob h
  have hb_u11 : u11 < 60 := (cd_dps e_u11).2
  refine cd_gP (o2 := 9) (u := u11) (o := 4) (k := 8) (f := 136) hj cx hw hic4 rfl ⟨by decide, rfl, by decide, rfl⟩ rfl (by decide) rfl e_u11 (List.mem_cons_of_mem _ cm_749) dX4_closeInner_55 ?_
  refine lv_iload_n cx.1 cx.2.1 dX4_closeInner_58 rfl (lv_at hl 2 rfl) ?_
  refine lv_aload_n cx.1 cx.2.1 dX4_closeInner_59 rfl (lv_at hl 1 rfl) ?_
  refine cd_gI (o := 9) (k := 0) (f := 288) hj cx hw hic9 rfl ⟨by decide, rfl, by decide, rfl⟩ rfl (show _ < 60 by omega) (List.mem_cons_of_mem _ cm_750) dX4_closeInner_60 ?_
  refine lv_iconst (v := 0) cx.1 cx.2.1 dX4_closeInner_63 (by decide) ?_
  obtain ⟨p12, e_p12, h⟩ := md_ob h
  obtain ⟨hm13, hn13, h⟩ := cd_cks h
  have hM13 : p.2.2.1 ≤ p12.2.2.1 ∧ p.2.2.2 ≤ p12.2.2.2 := ⟨hm13, hn13⟩
  have hle12 := (kc_X9_emit l D cA E sz ad _ hj oq sgq sgv hE n q9.1 (q9.2.1) u11 a2 ((cI q9.1 288 a1)) (0 : Int32) (show _ < 60 by omega) p12 e_p12).1
  refine hp_callVv (As := [.int a2, .int (cI q9.1 288 a1), .int 0]) (rest := []) cx hw ((kc_X9_emit l D cA E _ ad _ hj oq sgq sgv hE n q9.1 (q9.2.1) u11 a2 ((cI q9.1 288 a1)) (0 : Int32) (show _ < 60 by omega) p12 e_p12).2) (cwV 3 cx.2.2.2.2.2.1 (cd_giV cm_781 cm_782 cm_783 cm_114 cm_784) rfl rfl rfl hdc_X9_emit ⟨Nat.le_of_ble_eq_true rfl, Nat.le_of_ble_eq_true rfl⟩) (cd_atO hj (by decide) (show _ < 60 by omega)) rfl rfl hl.1 rfl (Nat.le_of_ble_eq_true rfl) dX4_closeInner_64 ⟨by (try dsimp only); omega, by (try dsimp only); omega⟩ (fun u H locs hp hw => ?_)
  obtain ⟨ca, hj, rfl⟩ := hp
  refine W.widen (k := b0.1 - p12.2.2.1) (n := b0.2 - p12.2.2.2) (by omega) (by omega) ?_
  exact hp_vret cx hw ((cd_retb hj h).2) dX4_closeInner_67 (cd_le1 h) (cd_le2 h)
set_option maxHeartbeats 4000000 in
set_option maxRecDepth 100000 in
theorem kc_X4_declare (l : Launch) (D : va_G) (cA : Nat → ClassId) (E : hp_N) (sz : Nat) (ad : Nat → Nat → Nat) (ca0 : Nat → Nat) (hj : cd_inj ad ca0) (oq sgq sgv : Nat) (hE : cd_E E oq sgq sgv) (n : Nat) (σ0 : cd_S) (a1 : Int64) (a3 : Int32) (p : (Int32 × cd_S)) (h : f_X4_declare n σ0 a1 a3 = some p) : Met l yX4_declare (Cond.code yX4_declare cX4_declare 4 none :: v_CLS) ({ frames := 0, cells := 0, slots := 0, locals := 0 }) (hp_Pc D vwCl (hp_Tl cA) E sz (cd_pic cA ad ca0 σ0) [.ref (ad 4 0), .long a1, .int a3]) (hp_Qv D vwCl (hp_Tl cA) sz (cd_pic cA ad ca0 σ0) (fun u => ∃ ca1, cd_inj ad ca1 ∧ u = cd_pic cA ad ca1 p.2)) 0 0 (hp_A (cd_pic cA ad ca0 σ0) sz) := by
  refine hp_ofW (cc := cX4_declare) (maxL := 4) (ret := none) (by decide) rfl (Nat.le_of_ble_eq_true rfl) ?_
  intro pp ee ss mm bb mt cd ls cx hsz hw hl
  have hl : lv_has ls 4 [(0, .ref (ad 4 0)), (1, .long a1), (3, .int a3)] := hl
  refine lv_aload_n cx.1 cx.2.1 dX4_declare_0 rfl (lv_at hl 0 rfl) ?_
  refine cd_gI (o := 4) (k := 6) (f := 134) hj cx hw hic4 rfl ⟨by decide, rfl, by decide, rfl⟩ rfl (by decide) (List.mem_cons_of_mem _ cm_728) dX4_declare_1 ?_
  refine lv_bipush (v := 12) cx.1 cx.2.1 dX4_declare_4 (by decide) ?_
  refine lv_icmp_ge (tgt := 39) cx.1 cx.2.1 dX4_declare_6 (by decide) (fun c6 => ?_) (fun c6 => ?_)
  · have h := md_ip c6 h
    exact hp_vret cx hw ((cd_ret hj h).2) dX4_declare_39
  · have h := md_in c6 h
    refine lv_aload_n cx.1 cx.2.1 dX4_declare_9 rfl (lv_at hl 0 rfl) ?_
    refine cd_gA (o := 4) (k := 4) (f := 132) hj cx hw hic4 rfl ⟨by decide, rfl, by decide, rfl⟩ rfl (by decide) (List.mem_cons_of_mem _ cm_788) dX4_declare_10 ?_
    refine lv_aload_n cx.1 cx.2.1 dX4_declare_13 rfl (lv_at hl 0 rfl) ?_
    refine cd_gI (o := 4) (k := 6) (f := 134) hj cx hw hic4 rfl ⟨by decide, rfl, by decide, rfl⟩ rfl (by decide) (List.mem_cons_of_mem _ cm_728) dX4_declare_14 ?_
    refine lv_lload_n cx.1 cx.2.1 dX4_declare_17 rfl (lv_at hl 1 rfl) ?_
    obtain ⟨σ1, e_σ1, h⟩ := md_ob h
    refine cd_sJ (f := 132) hj cx hw (by decide) (by decide) rfl e_σ1 dX4_declare_18 (fun H locs hw => ?_)
    refine lv_aload_n cx.1 cx.2.1 dX4_declare_19 rfl (lv_at hl 0 rfl) ?_
    refine cd_gA (o := 4) (k := 5) (f := 133) hj cx hw hic4 rfl ⟨by decide, rfl, by decide, rfl⟩ rfl (by decide) (List.mem_cons_of_mem _ cm_789) dX4_declare_20 ?_
    refine lv_aload_n cx.1 cx.2.1 dX4_declare_23 rfl (lv_at hl 0 rfl) ?_
    refine cd_gI (o := 4) (k := 6) (f := 134) hj cx hw hic4 rfl ⟨by decide, rfl, by decide, rfl⟩ rfl (by decide) (List.mem_cons_of_mem _ cm_728) dX4_declare_24 ?_
    refine lv_iload_n cx.1 cx.2.1 dX4_declare_27 rfl (lv_at hl 2 rfl) ?_
    obtain ⟨σ2, e_σ2, h⟩ := md_ob h
    refine cd_sI (f := 133) hj cx hw (by decide) (by decide) rfl e_σ2 dX4_declare_28 (fun H locs hw => ?_)
    refine lv_aload_n cx.1 cx.2.1 dX4_declare_29 rfl (lv_at hl 0 rfl) ?_
    refine lv_dup cx.1 cx.2.1 dX4_declare_30 rfl ?_
    refine cd_gI (o := 4) (k := 6) (f := 134) hj cx hw hic4 rfl ⟨by decide, rfl, by decide, rfl⟩ rfl (by decide) (List.mem_cons_of_mem _ cm_728) dX4_declare_31 ?_
    refine lv_iconst (v := 1) cx.1 cx.2.1 dX4_declare_34 (by decide) ?_
    refine lv_iadd cx.1 cx.2.1 dX4_declare_35 ?_
    obtain ⟨σ3, e_σ3, h⟩ := md_ob h
    refine cd_pI (o := 4) (k := 6) (f := 134) hj cx hw hic4 rfl ⟨by decide, rfl, by decide, rfl⟩ tyX4_ok nmX4 rfl (by decide) rfl (List.mem_cons_of_mem _ cm_728) rfl e_σ3 dX4_declare_36 (fun H locs hw => ?_)
    exact hp_vret cx hw ((cd_ret hj h).2) dX4_declare_39
set_option maxHeartbeats 4000000 in
set_option maxRecDepth 100000 in
theorem kc_X4_findVariable (l : Launch) (D : va_G) (cA : Nat → ClassId) (E : hp_N) (sz : Nat) (ad : Nat → Nat → Nat) (ca0 : Nat → Nat) (hj : cd_inj ad ca0) (oq sgq sgv : Nat) (hE : cd_E E oq sgq sgv) (n : Nat) (σ0 : cd_S) (a1 : Int64) (p : (Int32 × cd_S)) (h : f_X4_findVariable n σ0 a1 = some p) : Met l yX4_findVariable (Cond.code yX4_findVariable cX4_findVariable 4 (some .int) :: v_CLS) ({ frames := 0, cells := 0, slots := 0, locals := 0 }) (hp_Pc D vwCl (hp_Tl cA) E sz (cd_pic cA ad ca0 σ0) [.ref (ad 4 0), .long a1]) (hp_Qi D vwCl (hp_Tl cA) sz (cd_pic cA ad ca0 σ0) (fun r u => r = p.1 ∧ ∃ ca1, cd_inj ad ca1 ∧ u = cd_pic cA ad ca1 p.2)) 0 0 (hp_A (cd_pic cA ad ca0 σ0) sz) := by
  refine hp_ofW (cc := cX4_findVariable) (maxL := 4) (ret := (some .int)) (by decide) rfl (Nat.le_of_ble_eq_true rfl) ?_
  intro pp ee ss mm bb mt cd ls cx hsz hw hl
  have hl : lv_has ls 4 [(0, .ref (ad 4 0)), (1, .long a1)] := hl
  refine lv_aload_n cx.1 cx.2.1 dX4_findVariable_0 rfl (lv_at hl 0 rfl) ?_
  refine cd_gI (o := 4) (k := 6) (f := 134) hj cx hw hic4 rfl ⟨by decide, rfl, by decide, rfl⟩ rfl (by decide) (List.mem_cons_of_mem _ cm_728) dX4_findVariable_1 ?_
  refine lv_iconst (v := 1) cx.1 cx.2.1 dX4_findVariable_4 (by decide) ?_
  refine lv_isub cx.1 cx.2.1 dX4_findVariable_5 ?_
  refine lv_istore_n (lv' := [(3, .int ((cI σ0 134 0) - 1)), (0, .ref (ad 4 0)), (1, .long a1)]) cx.1 cx.2.1 dX4_findVariable_6 rfl hl (by decide) rfl (fun ls hl => ?_)
  have L7 : ∀ (j : Nat) (ca : Nat → Nat) (hj : cd_inj ad ca) (σ : cd_S) (l1 : Int64) (l3 : Int32) (q : (cd_S × Int32)) (H : Heap) (locs : List Loc) (ls : Array Slot), f_X4_findVariable_L7 n l1 j σ l3 = some q → hp_w D vwCl (hp_Tl cA) E (hp_A (cd_pic cA ad ca0 σ0) sz) ss H locs (cd_pic cA ad ca σ) → lv_has ls 4 [(0, .ref (ad 4 0)), (1, .long l1), (3, .int l3)] → (∀ (ca : Nat → Nat) (hj : cd_inj ad ca) (H : Heap) (locs : List Loc) (ls : Array Slot), hp_w D vwCl (hp_Tl cA) E (hp_A (cd_pic cA ad ca0 σ0) sz) ss H locs (cd_pic cA ad ca q.1) → lv_has ls 4 [(3, .int q.2)] → W pp l ee ({ frames := 0, cells := 0, slots := 0, locals := 0 }) ss mm [.ref (ad 4 0), .long a1].toArray bb mt cd H locs 0 0 (MQ bb (hp_Qi D vwCl (hp_Tl cA) sz (cd_pic cA ad ca0 σ0) (fun r u => r = p.1 ∧ ∃ ca1, cd_inj ad ca1 ∧ u = cd_pic cA ad ca1 p.2)) [.ref (ad 4 0), .long a1].toArray ss 0 0 (hp_A (cd_pic cA ad ca0 σ0) sz)) (F0 mm 28 ls [])) → W pp l ee ({ frames := 0, cells := 0, slots := 0, locals := 0 }) ss mm [.ref (ad 4 0), .long a1].toArray bb mt cd H locs 0 0 (MQ bb (hp_Qi D vwCl (hp_Tl cA) sz (cd_pic cA ad ca0 σ0) (fun r u => r = p.1 ∧ ∃ ca1, cd_inj ad ca1 ∧ u = cd_pic cA ad ca1 p.2)) [.ref (ad 4 0), .long a1].toArray ss 0 0 (hp_A (cd_pic cA ad ca0 σ0) sz)) (F0 mm 7 ls []) := by
    intro j
    induction j with
    | zero => intro ca hj σ l1 l3 q H locs ls h; exact nomatch h
    | succ j ih =>
      intro ca hj σ l1 l3 q H locs ls h hw hl K
      unfold f_X4_findVariable_L7 at h
      refine lv_iload_n cx.1 cx.2.1 dX4_findVariable_7 rfl (lv_at hl 2 rfl) ?_
      refine lv_if_lt (tgt := 28) cx.1 cx.2.1 dX4_findVariable_8 (by decide) (fun c8 => ?_) (fun c8 => ?_)
      · have h := md_ip c8 h
        obtain rfl := Option.some.inj h
        exact K _ hj _ _ _ hw (lv_sub hl [2] rfl)
      · have h := md_in c8 h
        refine lv_aload_n cx.1 cx.2.1 dX4_findVariable_11 rfl (lv_at hl 0 rfl) ?_
        refine cd_gA (o := 4) (k := 4) (f := 132) hj cx hw hic4 rfl ⟨by decide, rfl, by decide, rfl⟩ rfl (by decide) (List.mem_cons_of_mem _ cm_788) dX4_findVariable_12 ?_
        refine lv_iload_n cx.1 cx.2.1 dX4_findVariable_15 rfl (lv_at hl 2 rfl) ?_
        obtain ⟨v1, e_v1, h⟩ := md_ob h
        refine cd_lJ (f := 132) hj cx hw (by decide) (by decide) rfl e_v1 dX4_findVariable_16 ?_
        refine lv_lload_n cx.1 cx.2.1 dX4_findVariable_17 rfl (lv_at hl 1 rfl) ?_
        refine W.lcmp cx.1 cx.2.1 dX4_findVariable_18 ?_
        refine lv_if_eq (tgt := 28) cx.1 cx.2.1 dX4_findVariable_19 (by decide) (fun c19 => ?_) (fun c19 => ?_)
        · have h := md_ip c19 h
          obtain rfl := Option.some.inj h
          exact K _ hj _ _ _ hw (lv_sub hl [2] rfl)
        · have h := md_in c19 h
          refine lv_iinc (v := (l3 + (-1))) (lv' := [(3, .int (l3 + (-1))), (0, .ref (ad 4 0)), (1, .long l1)]) cx.1 cx.2.1 dX4_findVariable_22 hl (k := 2) rfl rfl (by decide) rfl (fun ls hl => ?_)
          refine lv_goto (tgt := 7) cx.1 cx.2.1 dX4_findVariable_25 (by decide) ?_
          exact ih _ hj σ l1 ((l3 + (-1))) q _ _ _ h hw (lv_sub hl [1, 2, 0] rfl) K
  obtain ⟨q2, e_q2, h⟩ := md_ob h
  refine L7 n _ hj σ0 a1 (((cI σ0 134 0) - 1)) q2 _ _ _ e_q2 hw (lv_sub hl [1, 2, 0] rfl) (fun ca hj H locs ls hw hl => ?_)
  refine lv_iload_n cx.1 cx.2.1 dX4_findVariable_28 rfl (lv_at hl 0 rfl) ?_
  exact hp_iret cx hw (cd_ret hj h) dX4_findVariable_29
set_option maxHeartbeats 4000000 in
set_option maxRecDepth 100000 in
theorem kc_X9_ownKey (l : Launch) (D : va_G) (cA : Nat → ClassId) (E : hp_N) (sz : Nat) (ad : Nat → Nat → Nat) (ca0 : Nat → Nat) (hj : cd_inj ad ca0) (oq sgq sgv : Nat) (hE : cd_E E oq sgq sgv) (n : Nat) (σ0 : cd_S) (a0 : Nat) (a1 : Int32) (hb_a0 : a0 < 60) (p : (Int32 × cd_S)) (h : f_X9_ownKey n σ0 a0 a1 = some p) : Met l yX9_ownKey (Cond.code yX9_ownKey cX9_ownKey 2 (some .int) :: v_CLS) ({ frames := 0, cells := 0, slots := 0, locals := 0 }) (hp_Pc D vwCl (hp_Tl cA) E sz (cd_pic cA ad ca0 σ0) [.ref (ad 9 a0), .int a1]) (hp_Qi D vwCl (hp_Tl cA) sz (cd_pic cA ad ca0 σ0) (fun r u => r = p.1 ∧ ∃ ca1, cd_inj ad ca1 ∧ u = cd_pic cA ad ca1 p.2)) 0 0 (hp_A (cd_pic cA ad ca0 σ0) sz) := by
  refine hp_ofW (cc := cX9_ownKey) (maxL := 2) (ret := (some .int)) (by decide) rfl (Nat.le_of_ble_eq_true rfl) ?_
  intro pp ee ss mm bb mt cd ls cx hsz hw hl
  have hl : lv_has ls 2 [(0, .ref (ad 9 a0)), (1, .int a1)] := hl
  refine lv_aload_n cx.1 cx.2.1 dX9_ownKey_0 rfl (lv_at hl 0 rfl) ?_
  refine cd_gI (o := 9) (k := 0) (f := 288) hj cx hw hic9 rfl ⟨by decide, rfl, by decide, rfl⟩ rfl (show _ < 60 by omega) (List.mem_cons_of_mem _ cm_533) dX9_ownKey_1 ?_
  refine lv_sipush (v := 1024) cx.1 cx.2.1 dX9_ownKey_4 (by decide) ?_
  refine lv_imul cx.1 cx.2.1 dX9_ownKey_7 ?_
  refine lv_iload_n cx.1 cx.2.1 dX9_ownKey_8 rfl (lv_at hl 1 rfl) ?_
  refine lv_iadd cx.1 cx.2.1 dX9_ownKey_9 ?_
  exact hp_iret cx hw (cd_ret hj h) dX9_ownKey_10
set_option maxHeartbeats 4000000 in
set_option maxRecDepth 100000 in
theorem kc_X9_addOwn (l : Launch) (D : va_G) (cA : Nat → ClassId) (E : hp_N) (sz : Nat) (ad : Nat → Nat → Nat) (ca0 : Nat → Nat) (hj : cd_inj ad ca0) (oq sgq sgv : Nat) (hE : cd_E E oq sgq sgv) (n : Nat) (σ0 : cd_S) (a0 : Nat) (hb_a0 : a0 < 60) (p : (Int32 × cd_S)) (h : f_X9_addOwn n σ0 a0 = some p) : Met l yX9_addOwn (Cond.code yX9_addOwn cX9_addOwn 2 (some .int) :: v_CLS) ({ frames := 1, cells := 0, slots := 0, locals := 21 }) (hp_Pc D vwCl (hp_Tl cA) E sz (cd_pic cA ad ca0 σ0) [.ref (ad 9 a0)]) (hp_Qi D vwCl (hp_Tl cA) sz (cd_pic cA ad ca0 σ0) (fun r u => r = p.1 ∧ ∃ ca1, cd_inj ad ca1 ∧ u = cd_pic cA ad ca1 p.2)) 0 0 (hp_A (cd_pic cA ad ca0 σ0) sz) := by
  refine hp_ofW (cc := cX9_addOwn) (maxL := 2) (ret := (some .int)) (by decide) rfl (Nat.le_of_ble_eq_true rfl) ?_
  intro pp ee ss mm bb mt cd ls cx hsz hw hl
  have hl : lv_has ls 2 [(0, .ref (ad 9 a0))] := hl
  refine lv_aload_n cx.1 cx.2.1 dX9_addOwn_0 rfl (lv_at hl 0 rfl) ?_
  refine lv_aload_n cx.1 cx.2.1 dX9_addOwn_1 rfl (lv_at hl 0 rfl) ?_
  refine cd_gI (o := 9) (k := 10) (f := 298) hj cx hw hic9 rfl ⟨by decide, rfl, by decide, rfl⟩ rfl (show _ < 60 by omega) (List.mem_cons_of_mem _ cm_98) dX9_addOwn_2 ?_
  obtain ⟨p1, e_p1, h⟩ := md_ob h
  refine hp_callVi (As := [.int (cI σ0 298 a0)]) (rest := []) cx hw (kc_X9_ownKey l D cA E _ ad _ hj oq sgq sgv hE n σ0 a0 ((cI σ0 298 a0)) (show _ < 60 by omega) p1 e_p1) (cwV 1 cx.2.2.2.2.2.1 (cd_giV cm_790 cm_791 cm_792 cm_114 cm_793) rfl rfl rfl hdc_X9_ownKey ⟨Nat.le_of_ble_eq_true rfl, Nat.le_of_ble_eq_true rfl⟩) (cd_atO hj (by decide) (show _ < 60 by omega)) rfl rfl hl.1 rfl (Nat.le_of_ble_eq_true rfl) dX9_addOwn_5 ⟨Nat.le_refl _, Nat.le_refl _⟩ (fun r u H locs hp hw => ?_)
  obtain ⟨rfl, ca, hj, rfl⟩ := hp
  refine lv_istore_n (lv' := [(1, .int p1.1), (0, .ref (ad 9 a0))]) cx.1 cx.2.1 dX9_addOwn_8 rfl hl (by decide) rfl (fun ls hl => ?_)
  refine lv_aload_n cx.1 cx.2.1 dX9_addOwn_9 rfl (lv_at hl 1 rfl) ?_
  refine lv_dup cx.1 cx.2.1 dX9_addOwn_10 rfl ?_
  refine cd_gI (o := 9) (k := 10) (f := 298) hj cx hw hic9 rfl ⟨by decide, rfl, by decide, rfl⟩ rfl (show _ < 60 by omega) (List.mem_cons_of_mem _ cm_98) dX9_addOwn_11 ?_
  refine lv_iconst (v := 1) cx.1 cx.2.1 dX9_addOwn_14 (by decide) ?_
  refine lv_iadd cx.1 cx.2.1 dX9_addOwn_15 ?_
  obtain ⟨σ2, e_σ2, h⟩ := md_ob h
  refine cd_pI (o := 9) (k := 10) (f := 298) hj cx hw hic9 rfl ⟨by decide, rfl, by decide, rfl⟩ tyX9_ok nmX9 rfl (show _ < 60 by omega) rfl (List.mem_cons_of_mem _ cm_98) rfl e_σ2 dX9_addOwn_16 (fun H locs hw => ?_)
  refine lv_iload_n cx.1 cx.2.1 dX9_addOwn_19 rfl (lv_at hl 0 rfl) ?_
  exact hp_iret cx hw (cd_ret hj h) dX9_addOwn_20
set_option maxHeartbeats 4000000 in
set_option maxRecDepth 100000 in
theorem kc_X4_readParameters (l : Launch) (D : va_G) (cA : Nat → ClassId) (E : hp_N) (sz : Nat) (ad : Nat → Nat → Nat) (ca0 : Nat → Nat) (hj : cd_inj ad ca0) (oq sgq sgv : Nat) (hE : cd_E E oq sgq sgv) (n : Nat) (σ0 : cd_S) (b0 : cd_B) (p : (Int32 × cd_S × cd_B)) (h : f_X4_readParameters n σ0 b0 = some (Sum.inl p)) : (p.2.2.1 ≤ b0.1 ∧ p.2.2.2 ≤ b0.2) ∧ Met l yX4_readParameters (Cond.code yX4_readParameters cX4_readParameters 4 none :: v_CLS) ({ frames := 14, cells := b0.1 - p.2.2.1, slots := b0.2 - p.2.2.2, locals := 243 }) (hp_Pc D vwCl (hp_Tl cA) E sz (cd_pic cA ad ca0 σ0) [.ref (ad 4 0)]) (hp_Qv D vwCl (hp_Tl cA) sz (cd_pic cA ad ca0 σ0) (fun u => ∃ ca1, cd_inj ad ca1 ∧ u = cd_pic cA ad ca1 p.2.1)) (b0.1 - p.2.2.1) (b0.2 - p.2.2.2) (hp_A (cd_pic cA ad ca0 σ0) sz) := by
  obtain ⟨hm0, hn0, h⟩ := cd_cks h
  have hM0 : p.2.2.1 ≤ b0.1 ∧ p.2.2.2 ≤ b0.2 := ⟨hm0, hn0⟩
  refine ⟨hM0, ?_⟩
  refine hp_ofW (cc := cX4_readParameters) (maxL := 4) (ret := none) (by decide) rfl (Nat.le_of_ble_eq_true rfl) ?_
  intro pp ee ss mm bb mt cd ls cx hsz hw hl
  have hl : lv_has ls 4 [(0, .ref (ad 4 0))] := hl
  refine W.widen (k := b0.1 - b0.1) (n := b0.2 - b0.2) (Nat.zero_le _) (Nat.zero_le _) ?_
  have J22 : ∀ (ca : Nat → Nat) (hj : cd_inj ad ca) (σ : cd_S) (b : cd_B) (l1 : Int32) (t0 : Int32) (H : Heap) (locs : List Loc) (ls : Array Slot), b.1 ≤ b0.1 → b.2 ≤ b0.2 → p.2.2.1 ≤ b.1 → p.2.2.2 ≤ b.2 → f_X4_readParameters_J22 n σ b l1 t0 = some (Sum.inl p) → hp_w D vwCl (hp_Tl cA) E (hp_A (cd_pic cA ad ca0 σ0) sz) ss H locs (cd_pic cA ad ca σ) → lv_has ls 4 [(0, .ref (ad 4 0)), (1, .int l1)] → W pp l ee ({ frames := 14, cells := b0.1 - p.2.2.1, slots := b0.2 - p.2.2.2, locals := 243 }) ss mm [.ref (ad 4 0)].toArray bb mt cd H locs (b0.1 - b.1) (b0.2 - b.2) (MQ bb (hp_Qv D vwCl (hp_Tl cA) sz (cd_pic cA ad ca0 σ0) (fun u => ∃ ca1, cd_inj ad ca1 ∧ u = cd_pic cA ad ca1 p.2.1)) [.ref (ad 4 0)].toArray ss (b0.1 - p.2.2.1) (b0.2 - p.2.2.2) (hp_A (cd_pic cA ad ca0 σ0) sz)) (F0 mm 22 ls [.int t0]) := by
    intro ca hj σ b l1 t0 H locs ls hb1 hb2 hf1 hf2 h hw hl
    refine lv_istore_n (lv' := [(2, .int t0), (0, .ref (ad 4 0)), (1, .int l1)]) cx.1 cx.2.1 dX4_readParameters_22 rfl hl (by decide) rfl (fun ls hl => ?_)
    refine lv_iconst (v := 0) cx.1 cx.2.1 dX4_readParameters_23 (by decide) ?_
    refine lv_istore_n (lv' := [(3, .int 0), (2, .int t0), (0, .ref (ad 4 0)), (1, .int l1)]) cx.1 cx.2.1 dX4_readParameters_24 rfl hl (by decide) rfl (fun ls hl => ?_)
    have L25 : ∀ (j : Nat) (ca : Nat → Nat) (hj : cd_inj ad ca) (σ : cd_S) (b : cd_B) (l1 : Int32) (l2 : Int32) (l3 : Int32) (q : (((Int32 × cd_S × cd_B) ⊕ (cd_S × cd_B)) ⊕ (cd_S × cd_B × Int32 × Int32))) (H : Heap) (locs : List Loc) (ls : Array Slot), b.1 ≤ b0.1 → b.2 ≤ b0.2 → p.2.2.1 ≤ b.1 → p.2.2.2 ≤ b.2 → p.2.2.1 ≤ (Sum.elim (fun (q : ((Int32 × cd_S × cd_B) ⊕ (cd_S × cd_B))) => Sum.elim (fun (p : (Int32 × cd_S × cd_B)) => p.2.2) (fun (t : cd_S × cd_B) => t.2) q) (fun (q : cd_S × cd_B × Int32 × Int32) => q.2.1) q).1 → p.2.2.2 ≤ (Sum.elim (fun (q : ((Int32 × cd_S × cd_B) ⊕ (cd_S × cd_B))) => Sum.elim (fun (p : (Int32 × cd_S × cd_B)) => p.2.2) (fun (t : cd_S × cd_B) => t.2) q) (fun (q : cd_S × cd_B × Int32 × Int32) => q.2.1) q).2 → f_X4_readParameters_L25 n l1 j σ b l2 l3 = some q → hp_w D vwCl (hp_Tl cA) E (hp_A (cd_pic cA ad ca0 σ0) sz) ss H locs (cd_pic cA ad ca σ) → lv_has ls 4 [(0, .ref (ad 4 0)), (1, .int l1), (2, .int l2), (3, .int l3)] → (∀ t, q = Sum.inr t → (∀ (ca : Nat → Nat) (hj : cd_inj ad ca) (H : Heap) (locs : List Loc) (ls : Array Slot), t.2.1.1 ≤ b0.1 → t.2.1.2 ≤ b0.2 → hp_w D vwCl (hp_Tl cA) E (hp_A (cd_pic cA ad ca0 σ0) sz) ss H locs (cd_pic cA ad ca t.1) → lv_has ls 4 [] → W pp l ee ({ frames := 14, cells := b0.1 - p.2.2.1, slots := b0.2 - p.2.2.2, locals := 243 }) ss mm [.ref (ad 4 0)].toArray bb mt cd H locs (b0.1 - t.2.1.1) (b0.2 - t.2.1.2) (MQ bb (hp_Qv D vwCl (hp_Tl cA) sz (cd_pic cA ad ca0 σ0) (fun u => ∃ ca1, cd_inj ad ca1 ∧ u = cd_pic cA ad ca1 p.2.1)) [.ref (ad 4 0)].toArray ss (b0.1 - p.2.2.1) (b0.2 - p.2.2.2) (hp_A (cd_pic cA ad ca0 σ0) sz)) (F0 mm 161 ls []))) → (∀ r, q = Sum.inl r → r = Sum.inl p) → W pp l ee ({ frames := 14, cells := b0.1 - p.2.2.1, slots := b0.2 - p.2.2.2, locals := 243 }) ss mm [.ref (ad 4 0)].toArray bb mt cd H locs (b0.1 - b.1) (b0.2 - b.2) (MQ bb (hp_Qv D vwCl (hp_Tl cA) sz (cd_pic cA ad ca0 σ0) (fun u => ∃ ca1, cd_inj ad ca1 ∧ u = cd_pic cA ad ca1 p.2.1)) [.ref (ad 4 0)].toArray ss (b0.1 - p.2.2.1) (b0.2 - p.2.2.2) (hp_A (cd_pic cA ad ca0 σ0) sz)) (F0 mm 25 ls []) := by
      intro j
      induction j with
      | zero => intro ca hj σ b l1 l2 l3 q H locs ls hb1 hb2 hf1 hf2 hq1 hq2 h; exact nomatch h
      | succ j ih =>
        intro ca hj σ b l1 l2 l3 q H locs ls hb1 hb2 hf1 hf2 hq1 hq2 h hw hl K KR
        unfold f_X4_readParameters_L25 at h
        have J155 : ∀ (ca : Nat → Nat) (hj : cd_inj ad ca) (σ : cd_S) (b : cd_B) (l2 : Int32) (l3 : Int32) (H : Heap) (locs : List Loc) (ls : Array Slot), b.1 ≤ b0.1 → b.2 ≤ b0.2 → p.2.2.1 ≤ b.1 → p.2.2.2 ≤ b.2 → f_X4_readParameters_J155 n l1 (f_X4_readParameters_L25 n l1 j) σ b l2 l3 = some q → hp_w D vwCl (hp_Tl cA) E (hp_A (cd_pic cA ad ca0 σ0) sz) ss H locs (cd_pic cA ad ca σ) → lv_has ls 4 [(0, .ref (ad 4 0)), (1, .int l1), (2, .int l2), (3, .int l3)] → W pp l ee ({ frames := 14, cells := b0.1 - p.2.2.1, slots := b0.2 - p.2.2.2, locals := 243 }) ss mm [.ref (ad 4 0)].toArray bb mt cd H locs (b0.1 - b.1) (b0.2 - b.2) (MQ bb (hp_Qv D vwCl (hp_Tl cA) sz (cd_pic cA ad ca0 σ0) (fun u => ∃ ca1, cd_inj ad ca1 ∧ u = cd_pic cA ad ca1 p.2.1)) [.ref (ad 4 0)].toArray ss (b0.1 - p.2.2.1) (b0.2 - p.2.2.2) (hp_A (cd_pic cA ad ca0 σ0) sz)) (F0 mm 155 ls []) := by
          intro ca hj σ b l2 l3 H locs ls hb1 hb2 hf1 hf2 h hw hl
          refine lv_iinc (v := (l3 + 1)) (lv' := [(3, .int (l3 + 1)), (0, .ref (ad 4 0)), (1, .int l1), (2, .int l2)]) cx.1 cx.2.1 dX4_readParameters_155 hl (k := 3) rfl rfl (by decide) rfl (fun ls hl => ?_)
          refine lv_goto (tgt := 25) cx.1 cx.2.1 dX4_readParameters_158 (by decide) ?_
          exact ih _ hj σ b l1 l2 ((l3 + 1)) q _ _ _ (by omega) (by omega) (by omega) (by omega) hq1 hq2 h hw (lv_sub hl [1, 2, 3, 0] rfl) K KR
        have J143 : ∀ (ca : Nat → Nat) (hj : cd_inj ad ca) (σ : cd_S) (b : cd_B) (l3 : Int32) (t0 : Int32) (H : Heap) (locs : List Loc) (ls : Array Slot), b.1 ≤ b0.1 → b.2 ≤ b0.2 → p.2.2.1 ≤ b.1 → p.2.2.2 ≤ b.2 → f_X4_readParameters_J143 n l1 (f_X4_readParameters_L25 n l1 j) σ b l3 t0 = some q → hp_w D vwCl (hp_Tl cA) E (hp_A (cd_pic cA ad ca0 σ0) sz) ss H locs (cd_pic cA ad ca σ) → lv_has ls 4 [(0, .ref (ad 4 0)), (1, .int l1), (3, .int l3)] → W pp l ee ({ frames := 14, cells := b0.1 - p.2.2.1, slots := b0.2 - p.2.2.2, locals := 243 }) ss mm [.ref (ad 4 0)].toArray bb mt cd H locs (b0.1 - b.1) (b0.2 - b.2) (MQ bb (hp_Qv D vwCl (hp_Tl cA) sz (cd_pic cA ad ca0 σ0) (fun u => ∃ ca1, cd_inj ad ca1 ∧ u = cd_pic cA ad ca1 p.2.1)) [.ref (ad 4 0)].toArray ss (b0.1 - p.2.2.1) (b0.2 - p.2.2.2) (hp_A (cd_pic cA ad ca0 σ0) sz)) (F0 mm 143 ls [.int t0]) := by
          intro ca hj σ b l3 t0 H locs ls hb1 hb2 hf1 hf2 h hw hl
          refine lv_istore_n (lv' := [(2, .int t0), (0, .ref (ad 4 0)), (1, .int l1), (3, .int l3)]) cx.1 cx.2.1 dX4_readParameters_143 rfl hl (by decide) rfl (fun ls hl => ?_)
          refine lv_iload_n cx.1 cx.2.1 dX4_readParameters_144 rfl (lv_at hl 0 rfl) ?_
          refine lv_if_eq (tgt := 155) cx.1 cx.2.1 dX4_readParameters_145 (by decide) (fun c145 => ?_) (fun c145 => ?_)
          · have h := md_ip c145 h
            exact J155 _ hj σ b t0 l3 _ _ _ (by omega) (by omega) (by omega) (by omega) h hw (lv_sub hl [1, 2, 0, 3] rfl)
          · have h := md_in c145 h
            refine lv_aload_n cx.1 cx.2.1 dX4_readParameters_148 rfl (lv_at hl 1 rfl) ?_
            refine cd_gO (o2 := 10) (e2 := 0) (o := 4) (k := 0) (f := 128) hj cx hw hic4 rfl ⟨by decide, rfl, by decide, rfl⟩ rfl (by decide) ⟨rfl, rfl⟩ (List.mem_cons_of_mem _ cm_658) dX4_readParameters_149 ?_
            obtain ⟨p1, e_p1, h⟩ := md_ob h
            refine hp_callVv (As := []) (rest := []) cx hw (kc_X10_advance l D cA E _ ad _ hj oq sgq sgv hE n σ  p1 e_p1) (cwV 0 cx.2.2.2.2.2.1 (cd_giV cm_670 cm_671 cm_672 cm_301 cm_673) rfl rfl rfl hdc_X10_advance ⟨Nat.le_of_ble_eq_true rfl, Nat.le_of_ble_eq_true rfl⟩) (cd_atO hj (by decide) (by decide)) rfl rfl hl.1 rfl (Nat.le_of_ble_eq_true rfl) dX4_readParameters_152 ⟨by (try dsimp only); omega, by (try dsimp only); omega⟩ (fun u H locs hp hw => ?_)
            obtain ⟨ca, hj, rfl⟩ := hp
            exact J155 _ hj p1.2 b t0 l3 _ _ _ (by omega) (by omega) (by omega) (by omega) h hw (lv_sub hl [1, 2, 0, 3] rfl)
        have J88 : ∀ (ca : Nat → Nat) (hj : cd_inj ad ca) (σ : cd_S) (b : cd_B) (l3 : Int32) (H : Heap) (locs : List Loc) (ls : Array Slot), b.1 ≤ b0.1 → b.2 ≤ b0.2 → p.2.2.1 ≤ b.1 → p.2.2.2 ≤ b.2 → f_X4_readParameters_J88 n l1 (f_X4_readParameters_L25 n l1 j) σ b l3 = some q → hp_w D vwCl (hp_Tl cA) E (hp_A (cd_pic cA ad ca0 σ0) sz) ss H locs (cd_pic cA ad ca σ) → lv_has ls 4 [(0, .ref (ad 4 0)), (1, .int l1), (3, .int l3)] → W pp l ee ({ frames := 14, cells := b0.1 - p.2.2.1, slots := b0.2 - p.2.2.2, locals := 243 }) ss mm [.ref (ad 4 0)].toArray bb mt cd H locs (b0.1 - b.1) (b0.2 - b.2) (MQ bb (hp_Qv D vwCl (hp_Tl cA) sz (cd_pic cA ad ca0 σ0) (fun u => ∃ ca1, cd_inj ad ca1 ∧ u = cd_pic cA ad ca1 p.2.1)) [.ref (ad 4 0)].toArray ss (b0.1 - p.2.2.1) (b0.2 - p.2.2.2) (hp_A (cd_pic cA ad ca0 σ0) sz)) (F0 mm 88 ls []) := by
          intro ca hj σ b l3 H locs ls hb1 hb2 hf1 hf2 h hw hl
          refine lv_aload_n cx.1 cx.2.1 dX4_readParameters_88 rfl (lv_at hl 0 rfl) ?_
          refine lv_aload_n cx.1 cx.2.1 dX4_readParameters_89 rfl (lv_at hl 0 rfl) ?_
          refine cd_gO (o2 := 10) (e2 := 0) (o := 4) (k := 0) (f := 128) hj cx hw hic4 rfl ⟨by decide, rfl, by decide, rfl⟩ rfl (by decide) ⟨rfl, rfl⟩ (List.mem_cons_of_mem _ cm_658) dX4_readParameters_90 ?_
          refine cd_gJ (o := 10) (k := 10) (f := 330) hj cx hw hic10 rfl ⟨by decide, rfl, by decide, rfl⟩ rfl (by decide) (List.mem_cons_of_mem _ cm_695) dX4_readParameters_93 ?_
          refine lv_aload_n cx.1 cx.2.1 dX4_readParameters_96 rfl (lv_at hl 0 rfl) ?_
          obtain ⟨u2, e_u2, h⟩ := md_ob h
          have hb_u2 : u2 < 60 := (cd_dps e_u2).2
          refine cd_gP (o2 := 9) (u := u2) (o := 4) (k := 8) (f := 136) hj cx hw hic4 rfl ⟨by decide, rfl, by decide, rfl⟩ rfl (by decide) rfl e_u2 (List.mem_cons_of_mem _ cm_749) dX4_readParameters_97 ?_
          obtain ⟨p3, e_p3, h⟩ := md_ob h
          refine hp_callVi (As := []) (rest := [.long (cJ σ 330 0), .ref (ad 4 0)]) cx hw (kc_X9_addOwn l D cA E _ ad _ hj oq sgq sgv hE n σ u2 (show _ < 60 by omega) p3 e_p3) (cwV 0 cx.2.2.2.2.2.1 (cd_giV cm_798 cm_799 cm_800 cm_114 cm_801) rfl rfl rfl hdc_X9_addOwn ⟨Nat.le_of_ble_eq_true rfl, Nat.le_of_ble_eq_true rfl⟩) (cd_atO hj (by decide) (show _ < 60 by omega)) rfl rfl hl.1 rfl (Nat.le_of_ble_eq_true rfl) dX4_readParameters_100 ⟨by (try dsimp only); omega, by (try dsimp only); omega⟩ (fun r u H locs hp hw => ?_)
          obtain ⟨rfl, ca, hj, rfl⟩ := hp
          obtain ⟨p4, e_p4, h⟩ := md_ob h
          refine hp_callVv (As := [.long (cJ σ 330 0), .int p3.1]) (rest := []) cx hw (kc_X4_declare l D cA E _ ad _ hj oq sgq sgv hE n p3.2 ((cJ σ 330 0)) (p3.1) p4 e_p4) (cwV 2 cx.2.2.2.2.2.1 (cd_giV cm_802 cm_803 cm_804 cm_663 cm_805) rfl rfl rfl hdc_X4_declare ⟨Nat.le_of_ble_eq_true rfl, Nat.le_of_ble_eq_true rfl⟩) (cd_atO hj (by decide) (by decide)) rfl rfl hl.1 rfl (Nat.le_of_ble_eq_true rfl) dX4_readParameters_103 ⟨by (try dsimp only); omega, by (try dsimp only); omega⟩ (fun u H locs hp hw => ?_)
          obtain ⟨ca, hj, rfl⟩ := hp
          refine lv_aload_n cx.1 cx.2.1 dX4_readParameters_106 rfl (lv_at hl 0 rfl) ?_
          obtain ⟨u5, e_u5, h⟩ := md_ob h
          have hb_u5 : u5 < 60 := (cd_dps e_u5).2
          refine cd_gP (o2 := 9) (u := u5) (o := 4) (k := 8) (f := 136) hj cx hw hic4 rfl ⟨by decide, rfl, by decide, rfl⟩ rfl (by decide) rfl e_u5 (List.mem_cons_of_mem _ cm_749) dX4_readParameters_107 ?_
          refine lv_dup cx.1 cx.2.1 dX4_readParameters_110 rfl ?_
          refine cd_gI (o := 9) (k := 6) (f := 294) hj cx hw hic9 rfl ⟨by decide, rfl, by decide, rfl⟩ rfl (show _ < 60 by omega) (List.mem_cons_of_mem _ cm_806) dX4_readParameters_111 ?_
          refine lv_iconst (v := 1) cx.1 cx.2.1 dX4_readParameters_114 (by decide) ?_
          refine lv_iadd cx.1 cx.2.1 dX4_readParameters_115 ?_
          obtain ⟨σ6, e_σ6, h⟩ := md_ob h
          refine cd_pI (o := 9) (k := 6) (f := 294) hj cx hw hic9 rfl ⟨by decide, rfl, by decide, rfl⟩ tyX9_ok nmX9 rfl (show _ < 60 by omega) rfl (List.mem_cons_of_mem _ cm_806) rfl e_σ6 dX4_readParameters_116 (fun H locs hw => ?_)
          refine lv_aload_n cx.1 cx.2.1 dX4_readParameters_119 rfl (lv_at hl 0 rfl) ?_
          refine cd_gO (o2 := 10) (e2 := 0) (o := 4) (k := 0) (f := 128) hj cx hw hic4 rfl ⟨by decide, rfl, by decide, rfl⟩ rfl (by decide) ⟨rfl, rfl⟩ (List.mem_cons_of_mem _ cm_658) dX4_readParameters_120 ?_
          obtain ⟨p7, e_p7, h⟩ := md_ob h
          refine hp_callVv (As := []) (rest := []) cx hw (kc_X10_advance l D cA E _ ad _ hj oq sgq sgv hE n σ6  p7 e_p7) (cwV 0 cx.2.2.2.2.2.1 (cd_giV cm_670 cm_671 cm_672 cm_301 cm_673) rfl rfl rfl hdc_X10_advance ⟨Nat.le_of_ble_eq_true rfl, Nat.le_of_ble_eq_true rfl⟩) (cd_atO hj (by decide) (by decide)) rfl rfl hl.1 rfl (Nat.le_of_ble_eq_true rfl) dX4_readParameters_123 ⟨by (try dsimp only); omega, by (try dsimp only); omega⟩ (fun u H locs hp hw => ?_)
          obtain ⟨ca, hj, rfl⟩ := hp
          refine lv_aload_n cx.1 cx.2.1 dX4_readParameters_126 rfl (lv_at hl 0 rfl) ?_
          refine cd_gO (o2 := 10) (e2 := 0) (o := 4) (k := 0) (f := 128) hj cx hw hic4 rfl ⟨by decide, rfl, by decide, rfl⟩ rfl (by decide) ⟨rfl, rfl⟩ (List.mem_cons_of_mem _ cm_658) dX4_readParameters_127 ?_
          refine cd_gI (o := 10) (k := 8) (f := 328) hj cx hw hic10 rfl ⟨by decide, rfl, by decide, rfl⟩ rfl (by decide) (List.mem_cons_of_mem _ cm_665) dX4_readParameters_130 ?_
          refine lv_bipush (v := 44) cx.1 cx.2.1 dX4_readParameters_133 (by decide) ?_
          refine lv_icmp_ne (tgt := 142) cx.1 cx.2.1 dX4_readParameters_135 (by decide) (fun c135 => ?_) (fun c135 => ?_)
          · have h := md_in c135 h
            refine lv_iconst (v := 0) cx.1 cx.2.1 dX4_readParameters_142 (by decide) ?_
            exact J143 _ hj p7.2 b l3 0 _ _ _ (by omega) (by omega) (by omega) (by omega) h hw (lv_sub hl [0, 1, 2] rfl)
          · have h := md_ip c135 h
            refine lv_iconst (v := 1) cx.1 cx.2.1 dX4_readParameters_138 (by decide) ?_
            refine lv_goto (tgt := 143) cx.1 cx.2.1 dX4_readParameters_139 (by decide) ?_
            exact J143 _ hj p7.2 b l3 1 _ _ _ (by omega) (by omega) (by omega) (by omega) h hw (lv_sub hl [0, 1, 2] rfl)
        have J58 : ∀ (ca : Nat → Nat) (hj : cd_inj ad ca) (σ : cd_S) (b : cd_B) (l3 : Int32) (t0 : Int32) (H : Heap) (locs : List Loc) (ls : Array Slot), b.1 ≤ b0.1 → b.2 ≤ b0.2 → p.2.2.1 ≤ b.1 → p.2.2.2 ≤ b.2 → f_X4_readParameters_J58 n l1 (f_X4_readParameters_L25 n l1 j) σ b l3 t0 = some q → hp_w D vwCl (hp_Tl cA) E (hp_A (cd_pic cA ad ca0 σ0) sz) ss H locs (cd_pic cA ad ca σ) → lv_has ls 4 [(0, .ref (ad 4 0)), (1, .int l1), (3, .int l3)] → W pp l ee ({ frames := 14, cells := b0.1 - p.2.2.1, slots := b0.2 - p.2.2.2, locals := 243 }) ss mm [.ref (ad 4 0)].toArray bb mt cd H locs (b0.1 - b.1) (b0.2 - b.2) (MQ bb (hp_Qv D vwCl (hp_Tl cA) sz (cd_pic cA ad ca0 σ0) (fun u => ∃ ca1, cd_inj ad ca1 ∧ u = cd_pic cA ad ca1 p.2.1)) [.ref (ad 4 0)].toArray ss (b0.1 - p.2.2.1) (b0.2 - p.2.2.2) (hp_A (cd_pic cA ad ca0 σ0) sz)) (F0 mm 58 ls [.int t0, .ref (ad 4 0)]) := by
          intro ca hj σ b l3 t0 H locs ls hb1 hb2 hf1 hf2 h hw hl
          obtain ⟨q8, e_q8, h⟩ := md_ob h
          obtain ⟨hm9, hn9, h⟩ := cd_cks h
          have hM9 : p.2.2.1 ≤ (Sum.elim (fun (p : Int32 × cd_S × cd_B) => p.2.2) (fun (t : cd_S × cd_B) => t.2) q8).1 ∧ p.2.2.2 ≤ (Sum.elim (fun (p : Int32 × cd_S × cd_B) => p.2.2) (fun (t : cd_S × cd_B) => t.2) q8).2 := ⟨Nat.le_trans hq1 hm9, Nat.le_trans hq2 hn9⟩
          cases q8 with
          | inr t8 =>
            exact nomatch KR _ (Option.some.inj h).symm
          | inl p8 =>
            have hle8 := (kc_X4_room l D cA E sz ad _ hj oq sgq sgv hE n σ b t0 p8 e_q8).1
            have hM10009 : p.2.2.1 ≤ p8.2.2.1 ∧ p.2.2.2 ≤ p8.2.2.2 := hM9
            have h := cd_inl h
            refine hp_callVv (As := [.int t0]) (rest := []) cx hw ((kc_X4_room l D cA E _ ad _ hj oq sgq sgv hE n σ b t0 p8 e_q8).2) (cwV 1 cx.2.2.2.2.2.1 (cd_giV cm_691 cm_692 cm_693 cm_663 cm_694) rfl rfl rfl hdc_X4_room ⟨Nat.le_of_ble_eq_true rfl, Nat.le_of_ble_eq_true rfl⟩) (cd_atO hj (by decide) (by decide)) rfl rfl hl.1 rfl (Nat.le_of_ble_eq_true rfl) dX4_readParameters_58 ⟨by (try dsimp only); omega, by (try dsimp only); omega⟩ (fun u H locs hp hw => ?_)
            obtain ⟨ca, hj, rfl⟩ := hp
            refine W.widen (k := b0.1 - p8.2.2.1) (n := b0.2 - p8.2.2.2) (by omega) (by omega) ?_
            refine lv_aload_n cx.1 cx.2.1 dX4_readParameters_61 rfl (lv_at hl 0 rfl) ?_
            refine lv_aload_n cx.1 cx.2.1 dX4_readParameters_62 rfl (lv_at hl 0 rfl) ?_
            refine cd_gO (o2 := 10) (e2 := 0) (o := 4) (k := 0) (f := 128) hj cx hw hic4 rfl ⟨by decide, rfl, by decide, rfl⟩ rfl (by decide) ⟨rfl, rfl⟩ (List.mem_cons_of_mem _ cm_658) dX4_readParameters_63 ?_
            refine cd_gJ (o := 10) (k := 10) (f := 330) hj cx hw hic10 rfl ⟨by decide, rfl, by decide, rfl⟩ rfl (by decide) (List.mem_cons_of_mem _ cm_695) dX4_readParameters_66 ?_
            obtain ⟨p10, e_p10, h⟩ := md_ob h
            refine hp_callVi (As := [.long (cJ p8.2.1 330 0)]) (rest := []) cx hw (kc_X4_findVariable l D cA E _ ad _ hj oq sgq sgv hE n p8.2.1 ((cJ p8.2.1 330 0)) p10 e_p10) (cwV 1 cx.2.2.2.2.2.1 (cd_giV cm_794 cm_795 cm_796 cm_663 cm_797) rfl rfl rfl hdc_X4_findVariable ⟨Nat.le_of_ble_eq_true rfl, Nat.le_of_ble_eq_true rfl⟩) (cd_atO hj (by decide) (by decide)) rfl rfl hl.1 rfl (Nat.le_of_ble_eq_true rfl) dX4_readParameters_69 ⟨by (try dsimp only); omega, by (try dsimp only); omega⟩ (fun r u H locs hp hw => ?_)
            obtain ⟨rfl, ca, hj, rfl⟩ := hp
            refine lv_iload_n cx.1 cx.2.1 dX4_readParameters_72 rfl (lv_at hl 1 rfl) ?_
            refine lv_icmp_lt (tgt := 88) cx.1 cx.2.1 dX4_readParameters_73 (by decide) (fun c73 => ?_) (fun c73 => ?_)
            · have h := md_ip c73 h
              exact J88 _ hj p10.2 (p8.2.2) l3 _ _ _ (by omega) (by omega) (by omega) (by omega) h hw (lv_sub hl [0, 1, 2] rfl)
            · have h := md_in c73 h
              refine lv_aload_n cx.1 cx.2.1 dX4_readParameters_76 rfl (lv_at hl 0 rfl) ?_
              refine lv_iconst (v := 2) cx.1 cx.2.1 dX4_readParameters_77 (by decide) ?_
              refine lv_aload_n cx.1 cx.2.1 dX4_readParameters_78 rfl (lv_at hl 0 rfl) ?_
              refine cd_gO (o2 := 10) (e2 := 0) (o := 4) (k := 0) (f := 128) hj cx hw hic4 rfl ⟨by decide, rfl, by decide, rfl⟩ rfl (by decide) ⟨rfl, rfl⟩ (List.mem_cons_of_mem _ cm_658) dX4_readParameters_79 ?_
              refine cd_gI (o := 10) (k := 9) (f := 329) hj cx hw hic10 rfl ⟨by decide, rfl, by decide, rfl⟩ rfl (by decide) (List.mem_cons_of_mem _ cm_659) dX4_readParameters_82 ?_
              obtain ⟨q11, e_q11, h⟩ := md_ob h
              obtain ⟨hm12, hn12, h⟩ := cd_cks h
              have hM12 : p.2.2.1 ≤ (Sum.elim (fun (p : Int32 × cd_S × cd_B) => p.2.2) (fun (t : cd_S × cd_B) => t.2) q11).1 ∧ p.2.2.2 ≤ (Sum.elim (fun (p : Int32 × cd_S × cd_B) => p.2.2) (fun (t : cd_S × cd_B) => t.2) q11).2 := ⟨Nat.le_trans hq1 hm12, Nat.le_trans hq2 hn12⟩
              cases q11 with
              | inr t11 =>
                exact nomatch KR _ (Option.some.inj h).symm
              | inl p11 =>
                have hle11 := (kc_X4_refuse l D cA E sz ad _ hj oq sgq sgv hE n p10.2 (p8.2.2) (2 : Int32) ((cI p10.2 329 0)) p11 e_q11).1
                have hM10012 : p.2.2.1 ≤ p11.2.2.1 ∧ p.2.2.2 ≤ p11.2.2.2 := hM12
                have h := cd_inl h
                refine hp_callVv (As := [.int 2, .int (cI p10.2 329 0)]) (rest := []) cx hw ((kc_X4_refuse l D cA E _ ad _ hj oq sgq sgv hE n p10.2 (p8.2.2) (2 : Int32) ((cI p10.2 329 0)) p11 e_q11).2) (cwV 2 cx.2.2.2.2.2.1 (cd_giV cm_660 cm_661 cm_662 cm_663 cm_664) rfl rfl rfl hdc_X4_refuse ⟨Nat.le_of_ble_eq_true rfl, Nat.le_of_ble_eq_true rfl⟩) (cd_atO hj (by decide) (by decide)) rfl rfl hl.1 rfl (Nat.le_of_ble_eq_true rfl) dX4_readParameters_85 ⟨by (try dsimp only); omega, by (try dsimp only); omega⟩ (fun u H locs hp hw => ?_)
                obtain ⟨ca, hj, rfl⟩ := hp
                refine W.widen (k := b0.1 - p11.2.2.1) (n := b0.2 - p11.2.2.2) (by omega) (by omega) ?_
                exact J88 _ hj p11.2.1 (p11.2.2) l3 _ _ _ (by omega) (by omega) (by omega) (by omega) h hw (lv_sub hl [0, 1, 2] rfl)
        have J57 : ∀ (ca : Nat → Nat) (hj : cd_inj ad ca) (σ : cd_S) (b : cd_B) (l3 : Int32) (H : Heap) (locs : List Loc) (ls : Array Slot), b.1 ≤ b0.1 → b.2 ≤ b0.2 → p.2.2.1 ≤ b.1 → p.2.2.2 ≤ b.2 → f_X4_readParameters_J57 n l1 (f_X4_readParameters_L25 n l1 j) σ b l3 = some q → hp_w D vwCl (hp_Tl cA) E (hp_A (cd_pic cA ad ca0 σ0) sz) ss H locs (cd_pic cA ad ca σ) → lv_has ls 4 [(0, .ref (ad 4 0)), (1, .int l1), (3, .int l3)] → W pp l ee ({ frames := 14, cells := b0.1 - p.2.2.1, slots := b0.2 - p.2.2.2, locals := 243 }) ss mm [.ref (ad 4 0)].toArray bb mt cd H locs (b0.1 - b.1) (b0.2 - b.2) (MQ bb (hp_Qv D vwCl (hp_Tl cA) sz (cd_pic cA ad ca0 σ0) (fun u => ∃ ca1, cd_inj ad ca1 ∧ u = cd_pic cA ad ca1 p.2.1)) [.ref (ad 4 0)].toArray ss (b0.1 - p.2.2.1) (b0.2 - p.2.2.2) (hp_A (cd_pic cA ad ca0 σ0) sz)) (F0 mm 57 ls [.ref (ad 4 0)]) := by
          intro ca hj σ b l3 H locs ls hb1 hb2 hf1 hf2 h hw hl
          refine lv_iconst (v := 0) cx.1 cx.2.1 dX4_readParameters_57 (by decide) ?_
          exact J58 _ hj σ b l3 0 _ _ _ (by omega) (by omega) (by omega) (by omega) h hw (lv_sub hl [0, 1, 2] rfl)
        refine lv_iload_n cx.1 cx.2.1 dX4_readParameters_25 rfl (lv_at hl 2 rfl) ?_
        refine lv_if_eq (tgt := 161) cx.1 cx.2.1 dX4_readParameters_26 (by decide) (fun c26 => ?_) (fun c26 => ?_)
        · have h := md_ip c26 h
          exact K _ (Option.some.inj h).symm _ hj _ _ _ (by (try dsimp only); omega) (by (try dsimp only); omega) hw (lv_sub hl [] rfl)
        · have h := md_in c26 h
          refine lv_iload_n cx.1 cx.2.1 dX4_readParameters_29 rfl (lv_at hl 3 rfl) ?_
          refine lv_iconst (v := 3) cx.1 cx.2.1 dX4_readParameters_30 (by decide) ?_
          refine lv_icmp_gt (tgt := 161) cx.1 cx.2.1 dX4_readParameters_31 (by decide) (fun c31 => ?_) (fun c31 => ?_)
          · have h := md_ip c31 h
            exact K _ (Option.some.inj h).symm _ hj _ _ _ (by (try dsimp only); omega) (by (try dsimp only); omega) hw (lv_sub hl [] rfl)
          · have h := md_in c31 h
            refine lv_aload_n cx.1 cx.2.1 dX4_readParameters_34 rfl (lv_at hl 0 rfl) ?_
            obtain ⟨q13, e_q13, h⟩ := md_ob h
            obtain ⟨hm14, hn14, h⟩ := cd_cks h
            have hM14 : p.2.2.1 ≤ (Sum.elim (fun (p : Int32 × cd_S × cd_B) => p.2.2) (fun (t : cd_S × cd_B) => t.2) q13).1 ∧ p.2.2.2 ≤ (Sum.elim (fun (p : Int32 × cd_S × cd_B) => p.2.2) (fun (t : cd_S × cd_B) => t.2) q13).2 := ⟨Nat.le_trans hq1 hm14, Nat.le_trans hq2 hn14⟩
            cases q13 with
            | inr t13 =>
              exact nomatch KR _ (Option.some.inj h).symm
            | inl p13 =>
              have hle13 := (kc_X4_needName l D cA E sz ad _ hj oq sgq sgv hE n σ b  p13 e_q13).1
              have hM10014 : p.2.2.1 ≤ p13.2.2.1 ∧ p.2.2.2 ≤ p13.2.2.2 := hM14
              have h := cd_inl h
              refine hp_callVv (As := []) (rest := []) cx hw ((kc_X4_needName l D cA E _ ad _ hj oq sgq sgv hE n σ b  p13 e_q13).2) (cwV 0 cx.2.2.2.2.2.1 (cd_giV cm_687 cm_688 cm_689 cm_663 cm_690) rfl rfl rfl hdc_X4_needName ⟨Nat.le_of_ble_eq_true rfl, Nat.le_of_ble_eq_true rfl⟩) (cd_atO hj (by decide) (by decide)) rfl rfl hl.1 rfl (Nat.le_of_ble_eq_true rfl) dX4_readParameters_35 ⟨by (try dsimp only); omega, by (try dsimp only); omega⟩ (fun u H locs hp hw => ?_)
              obtain ⟨ca, hj, rfl⟩ := hp
              refine W.widen (k := b0.1 - p13.2.2.1) (n := b0.2 - p13.2.2.2) (by omega) (by omega) ?_
              refine lv_aload_n cx.1 cx.2.1 dX4_readParameters_38 rfl (lv_at hl 0 rfl) ?_
              refine lv_iload_n cx.1 cx.2.1 dX4_readParameters_39 rfl (lv_at hl 3 rfl) ?_
              refine lv_iconst (v := 3) cx.1 cx.2.1 dX4_readParameters_40 (by decide) ?_
              refine lv_icmp_ge (tgt := 57) cx.1 cx.2.1 dX4_readParameters_41 (by decide) (fun c41 => ?_) (fun c41 => ?_)
              · have h := md_ip c41 h
                exact J57 _ hj p13.2.1 (p13.2.2) l3 _ _ _ (by omega) (by omega) (by omega) (by omega) h hw (lv_sub hl [0, 1, 3] rfl)
              · have h := md_in c41 h
                refine lv_aload_n cx.1 cx.2.1 dX4_readParameters_44 rfl (lv_at hl 0 rfl) ?_
                refine cd_gI (o := 4) (k := 6) (f := 134) hj cx hw hic4 rfl ⟨by decide, rfl, by decide, rfl⟩ rfl (by decide) (List.mem_cons_of_mem _ cm_728) dX4_readParameters_45 ?_
                refine lv_bipush (v := 12) cx.1 cx.2.1 dX4_readParameters_48 (by decide) ?_
                refine lv_icmp_ge (tgt := 57) cx.1 cx.2.1 dX4_readParameters_50 (by decide) (fun c50 => ?_) (fun c50 => ?_)
                · have h := md_ip c50 h
                  exact J57 _ hj p13.2.1 (p13.2.2) l3 _ _ _ (by omega) (by omega) (by omega) (by omega) h hw (lv_sub hl [0, 1, 3] rfl)
                · have h := md_in c50 h
                  refine lv_iconst (v := 1) cx.1 cx.2.1 dX4_readParameters_53 (by decide) ?_
                  refine lv_goto (tgt := 58) cx.1 cx.2.1 dX4_readParameters_54 (by decide) ?_
                  exact J58 _ hj p13.2.1 (p13.2.2) l3 1 _ _ _ (by omega) (by omega) (by omega) (by omega) h hw (lv_sub hl [0, 1, 3] rfl)
    obtain ⟨q15, e_q15, h⟩ := md_ob h
    obtain ⟨hm16, hn16, h⟩ := cd_cks h
    have hM16 : p.2.2.1 ≤ (Sum.elim (fun (q : ((Int32 × cd_S × cd_B) ⊕ (cd_S × cd_B))) => Sum.elim (fun (p : (Int32 × cd_S × cd_B)) => p.2.2) (fun (t : cd_S × cd_B) => t.2) q) (fun (q : cd_S × cd_B × Int32 × Int32) => q.2.1) q15).1 ∧ p.2.2.2 ≤ (Sum.elim (fun (q : ((Int32 × cd_S × cd_B) ⊕ (cd_S × cd_B))) => Sum.elim (fun (p : (Int32 × cd_S × cd_B)) => p.2.2) (fun (t : cd_S × cd_B) => t.2) q) (fun (q : cd_S × cd_B × Int32 × Int32) => q.2.1) q15).2 := ⟨hm16, hn16⟩
    refine L25 n _ hj σ b l1 t0 0 q15 _ _ _ (by omega) (by omega) (by omega) (by omega) hM16.1 hM16.2 e_q15 hw (lv_sub hl [2, 3, 1, 0] rfl) (fun t15 hq15 ca hj H locs ls hb1 hb2 hw hl => ?_) (fun r hr => by subst hr; exact Option.some.inj h)
    subst hq15
    have h := md_inr h
    have hS16 : p.2.2.1 ≤ t15.2.1.1 ∧ p.2.2.2 ≤ t15.2.1.2 := hM16
    exact hp_vret cx hw ((cd_retb hj (congrArg some (Sum.inl.inj (Option.some.inj h)))).2) dX4_readParameters_161 (cd_le1 (congrArg some (Sum.inl.inj (Option.some.inj h)))) (cd_le2 (congrArg some (Sum.inl.inj (Option.some.inj h))))
  refine lv_aload_n cx.1 cx.2.1 dX4_readParameters_0 rfl (lv_at hl 0 rfl) ?_
  refine cd_gI (o := 4) (k := 6) (f := 134) hj cx hw hic4 rfl ⟨by decide, rfl, by decide, rfl⟩ rfl (by decide) (List.mem_cons_of_mem _ cm_728) dX4_readParameters_1 ?_
  refine lv_istore_n (lv' := [(1, .int (cI σ0 134 0)), (0, .ref (ad 4 0))]) cx.1 cx.2.1 dX4_readParameters_4 rfl hl (by decide) rfl (fun ls hl => ?_)
  refine lv_aload_n cx.1 cx.2.1 dX4_readParameters_5 rfl (lv_at hl 1 rfl) ?_
  refine cd_gO (o2 := 10) (e2 := 0) (o := 4) (k := 0) (f := 128) hj cx hw hic4 rfl ⟨by decide, rfl, by decide, rfl⟩ rfl (by decide) ⟨rfl, rfl⟩ (List.mem_cons_of_mem _ cm_658) dX4_readParameters_6 ?_
  refine cd_gI (o := 10) (k := 8) (f := 328) hj cx hw hic10 rfl ⟨by decide, rfl, by decide, rfl⟩ rfl (by decide) (List.mem_cons_of_mem _ cm_665) dX4_readParameters_9 ?_
  refine lv_bipush (v := 41) cx.1 cx.2.1 dX4_readParameters_12 (by decide) ?_
  refine lv_icmp_eq (tgt := 21) cx.1 cx.2.1 dX4_readParameters_14 (by decide) (fun c14 => ?_) (fun c14 => ?_)
  · have h := md_ip c14 h
    refine lv_iconst (v := 0) cx.1 cx.2.1 dX4_readParameters_21 (by decide) ?_
    exact J22 _ hj σ0 b0 ((cI σ0 134 0)) 0 _ _ _ (by omega) (by omega) (by omega) (by omega) h hw (lv_sub hl [1, 0] rfl)
  · have h := md_in c14 h
    refine lv_iconst (v := 1) cx.1 cx.2.1 dX4_readParameters_17 (by decide) ?_
    refine lv_goto (tgt := 22) cx.1 cx.2.1 dX4_readParameters_18 (by decide) ?_
    exact J22 _ hj σ0 b0 ((cI σ0 134 0)) 1 _ _ _ (by omega) (by omega) (by omega) (by omega) h hw (lv_sub hl [1, 0] rfl)
