set_option maxHeartbeats 4000000 in
set_option maxRecDepth 100000 in
theorem kc_X4_readSuper (l : Launch) (D : va_G) (cA : Nat → ClassId) (E : hp_N) (sz : Nat) (ad : Nat → Nat → Nat) (ca0 : Nat → Nat) (hj : cd_inj ad ca0) (oq sgq sgv : Nat) (hE : cd_E E oq sgq sgv) (n : Nat) (σ0 : cd_S) (b0 : cd_B) (p : (Int32 × cd_S × cd_B)) (h : f_X4_readSuper n σ0 b0 = some (Sum.inl p)) : (p.2.2.1 ≤ b0.1 ∧ p.2.2.2 ≤ b0.2) ∧ Met l yX4_readSuper (Cond.code yX4_readSuper cX4_readSuper 2 none :: v_CLS) ({ frames := 14, cells := b0.1 - p.2.2.1, slots := b0.2 - p.2.2.2, locals := 242 }) (hp_Pc D vwCl (hp_Tl cA) E sz (cd_pic cA ad ca0 σ0) [.ref (ad 4 0)]) (hp_Qv D vwCl (hp_Tl cA) sz (cd_pic cA ad ca0 σ0) (fun u => ∃ ca1, cd_inj ad ca1 ∧ u = cd_pic cA ad ca1 p.2.1)) (b0.1 - p.2.2.1) (b0.2 - p.2.2.2) (hp_A (cd_pic cA ad ca0 σ0) sz) := by
  obtain ⟨hm0, hn0, h⟩ := cd_cks h
  have hM0 : p.2.2.1 ≤ b0.1 ∧ p.2.2.2 ≤ b0.2 := ⟨hm0, hn0⟩
  refine ⟨hM0, ?_⟩
  refine hp_ofW (cc := cX4_readSuper) (maxL := 2) (ret := none) (by decide) rfl (Nat.le_of_ble_eq_true rfl) ?_
  intro pp ee ss mm bb mt cd ls cx hsz hw hl
  have hl : lv_has ls 2 [(0, .ref (ad 4 0))] := hl
  refine W.widen (k := b0.1 - b0.1) (n := b0.2 - b0.2) (Nat.zero_le _) (Nat.zero_le _) ?_
  have J51 : ∀ (ca : Nat → Nat) (hj : cd_inj ad ca) (σ : cd_S) (b : cd_B) (l1 : Int32) (H : Heap) (locs : List Loc) (ls : Array Slot), b.1 ≤ b0.1 → b.2 ≤ b0.2 → p.2.2.1 ≤ b.1 → p.2.2.2 ≤ b.2 → f_X4_readSuper_J51 n σ b l1 = some (Sum.inl p) → hp_w D vwCl (hp_Tl cA) E (hp_A (cd_pic cA ad ca0 σ0) sz) ss H locs (cd_pic cA ad ca σ) → lv_has ls 2 [(0, .ref (ad 4 0)), (1, .int l1)] → W pp l ee ({ frames := 14, cells := b0.1 - p.2.2.1, slots := b0.2 - p.2.2.2, locals := 242 }) ss mm [.ref (ad 4 0)].toArray bb mt cd H locs (b0.1 - b.1) (b0.2 - b.2) (MQ bb (hp_Qv D vwCl (hp_Tl cA) sz (cd_pic cA ad ca0 σ0) (fun u => ∃ ca1, cd_inj ad ca1 ∧ u = cd_pic cA ad ca1 p.2.1)) [.ref (ad 4 0)].toArray ss (b0.1 - p.2.2.1) (b0.2 - p.2.2.2) (hp_A (cd_pic cA ad ca0 σ0) sz)) (F0 mm 51 ls []) := by
    intro ca hj σ b l1 H locs ls hb1 hb2 hf1 hf2 h hw hl
    refine lv_aload_n cx.1 cx.2.1 dX4_readSuper_51 rfl (lv_at hl 0 rfl) ?_
    refine cd_gO (o2 := 2) (e2 := 0) (o := 4) (k := 1) (f := 129) hj cx hw hic4 rfl ⟨by decide, rfl, by decide, rfl⟩ rfl (by decide) ⟨rfl, rfl⟩ (List.mem_cons_of_mem _ cm_722) dX4_readSuper_52 ?_
    refine lv_aload_n cx.1 cx.2.1 dX4_readSuper_55 rfl (lv_at hl 0 rfl) ?_
    refine cd_gI (o := 4) (k := 9) (f := 137) hj cx hw hic4 rfl ⟨by decide, rfl, by decide, rfl⟩ rfl (by decide) (List.mem_cons_of_mem _ cm_734) dX4_readSuper_56 ?_
    refine lv_iload_n cx.1 cx.2.1 dX4_readSuper_59 rfl (lv_at hl 1 rfl) ?_
    obtain ⟨p1, e_p1, h⟩ := md_ob h
    refine hp_callVv (As := [.int (cI σ 137 0), .int l1]) (rest := []) cx hw (kc_X2_setSuper l D cA E _ ad _ hj oq sgq sgv hE n σ ((cI σ 137 0)) l1 p1 e_p1) (cwV 2 cx.2.2.2.2.2.1 (cd_giV cm_957 cm_958 cm_959 cm_167 cm_960) rfl rfl rfl hdc_X2_setSuper ⟨Nat.le_of_ble_eq_true rfl, Nat.le_of_ble_eq_true rfl⟩) (cd_atO hj (by decide) (by decide)) rfl rfl hl.1 rfl (Nat.le_of_ble_eq_true rfl) dX4_readSuper_60 ⟨by (try dsimp only); omega, by (try dsimp only); omega⟩ (fun u H locs hp hw => ?_)
    obtain ⟨ca, hj, rfl⟩ := hp
    refine lv_aload_n cx.1 cx.2.1 dX4_readSuper_63 rfl (lv_at hl 0 rfl) ?_
    refine cd_gO (o2 := 10) (e2 := 0) (o := 4) (k := 0) (f := 128) hj cx hw hic4 rfl ⟨by decide, rfl, by decide, rfl⟩ rfl (by decide) ⟨rfl, rfl⟩ (List.mem_cons_of_mem _ cm_658) dX4_readSuper_64 ?_
    obtain ⟨p2, e_p2, h⟩ := md_ob h
    refine hp_callVv (As := []) (rest := []) cx hw (kc_X10_advance l D cA E _ ad _ hj oq sgq sgv hE n p1.2  p2 e_p2) (cwV 0 cx.2.2.2.2.2.1 (cd_giV cm_670 cm_671 cm_672 cm_301 cm_673) rfl rfl rfl hdc_X10_advance ⟨Nat.le_of_ble_eq_true rfl, Nat.le_of_ble_eq_true rfl⟩) (cd_atO hj (by decide) (by decide)) rfl rfl hl.1 rfl (Nat.le_of_ble_eq_true rfl) dX4_readSuper_67 ⟨by (try dsimp only); omega, by (try dsimp only); omega⟩ (fun u H locs hp hw => ?_)
    obtain ⟨ca, hj, rfl⟩ := hp
    exact hp_vret cx hw ((cd_retb hj (congrArg some (Sum.inl.inj (Option.some.inj h)))).2) dX4_readSuper_70 (cd_le1 (congrArg some (Sum.inl.inj (Option.some.inj h)))) (cd_le2 (congrArg some (Sum.inl.inj (Option.some.inj h))))
  have J39 : ∀ (ca : Nat → Nat) (hj : cd_inj ad ca) (σ : cd_S) (b : cd_B) (l1 : Int32) (H : Heap) (locs : List Loc) (ls : Array Slot), b.1 ≤ b0.1 → b.2 ≤ b0.2 → p.2.2.1 ≤ b.1 → p.2.2.2 ≤ b.2 → f_X4_readSuper_J39 n σ b l1 = some (Sum.inl p) → hp_w D vwCl (hp_Tl cA) E (hp_A (cd_pic cA ad ca0 σ0) sz) ss H locs (cd_pic cA ad ca σ) → lv_has ls 2 [(0, .ref (ad 4 0)), (1, .int l1)] → W pp l ee ({ frames := 14, cells := b0.1 - p.2.2.1, slots := b0.2 - p.2.2.2, locals := 242 }) ss mm [.ref (ad 4 0)].toArray bb mt cd H locs (b0.1 - b.1) (b0.2 - b.2) (MQ bb (hp_Qv D vwCl (hp_Tl cA) sz (cd_pic cA ad ca0 σ0) (fun u => ∃ ca1, cd_inj ad ca1 ∧ u = cd_pic cA ad ca1 p.2.1)) [.ref (ad 4 0)].toArray ss (b0.1 - p.2.2.1) (b0.2 - p.2.2.2) (hp_A (cd_pic cA ad ca0 σ0) sz)) (F0 mm 39 ls []) := by
    intro ca hj σ b l1 H locs ls hb1 hb2 hf1 hf2 h hw hl
    refine lv_aload_n cx.1 cx.2.1 dX4_readSuper_39 rfl (lv_at hl 0 rfl) ?_
    refine lv_iconst (v := 3) cx.1 cx.2.1 dX4_readSuper_40 (by decide) ?_
    refine lv_aload_n cx.1 cx.2.1 dX4_readSuper_41 rfl (lv_at hl 0 rfl) ?_
    refine cd_gO (o2 := 10) (e2 := 0) (o := 4) (k := 0) (f := 128) hj cx hw hic4 rfl ⟨by decide, rfl, by decide, rfl⟩ rfl (by decide) ⟨rfl, rfl⟩ (List.mem_cons_of_mem _ cm_658) dX4_readSuper_42 ?_
    refine cd_gI (o := 10) (k := 9) (f := 329) hj cx hw hic10 rfl ⟨by decide, rfl, by decide, rfl⟩ rfl (by decide) (List.mem_cons_of_mem _ cm_659) dX4_readSuper_45 ?_
    obtain ⟨q3, e_q3, h⟩ := md_ob h
    obtain ⟨hm4, hn4, h⟩ := cd_cks h
    have hM4 : p.2.2.1 ≤ (Sum.elim (fun (p : Int32 × cd_S × cd_B) => p.2.2) (fun (t : cd_S × cd_B) => t.2) q3).1 ∧ p.2.2.2 ≤ (Sum.elim (fun (p : Int32 × cd_S × cd_B) => p.2.2) (fun (t : cd_S × cd_B) => t.2) q3).2 := ⟨hm4, hn4⟩
    cases q3 with
    | inr t3 =>
      exact nomatch Option.some.inj h
    | inl p3 =>
      have hle3 := (kc_X4_refuse l D cA E sz ad _ hj oq sgq sgv hE n σ b (3 : Int32) ((cI σ 329 0)) p3 e_q3).1
      have hM10004 : p.2.2.1 ≤ p3.2.2.1 ∧ p.2.2.2 ≤ p3.2.2.2 := hM4
      have h := cd_inl h
      refine hp_callVv (As := [.int 3, .int (cI σ 329 0)]) (rest := []) cx hw ((kc_X4_refuse l D cA E _ ad _ hj oq sgq sgv hE n σ b (3 : Int32) ((cI σ 329 0)) p3 e_q3).2) (cwV 2 cx.2.2.2.2.2.1 (cd_giV cm_660 cm_661 cm_662 cm_663 cm_664) rfl rfl rfl hdc_X4_refuse ⟨Nat.le_of_ble_eq_true rfl, Nat.le_of_ble_eq_true rfl⟩) (cd_atO hj (by decide) (by decide)) rfl rfl hl.1 rfl (Nat.le_of_ble_eq_true rfl) dX4_readSuper_48 ⟨by (try dsimp only); omega, by (try dsimp only); omega⟩ (fun u H locs hp hw => ?_)
      obtain ⟨ca, hj, rfl⟩ := hp
      refine W.widen (k := b0.1 - p3.2.2.1) (n := b0.2 - p3.2.2.2) (by omega) (by omega) ?_
      exact J51 _ hj p3.2.1 (p3.2.2) l1 _ _ _ (by omega) (by omega) (by omega) (by omega) h hw (lv_sub hl [0, 1] rfl)
  refine lv_aload_n cx.1 cx.2.1 dX4_readSuper_0 rfl (lv_at hl 0 rfl) ?_
  refine cd_gO (o2 := 10) (e2 := 0) (o := 4) (k := 0) (f := 128) hj cx hw hic4 rfl ⟨by decide, rfl, by decide, rfl⟩ rfl (by decide) ⟨rfl, rfl⟩ (List.mem_cons_of_mem _ cm_658) dX4_readSuper_1 ?_
  obtain ⟨p5, e_p5, h⟩ := md_ob h
  refine hp_callVv (As := []) (rest := []) cx hw (kc_X10_advance l D cA E _ ad _ hj oq sgq sgv hE n σ0  p5 e_p5) (cwV 0 cx.2.2.2.2.2.1 (cd_giV cm_670 cm_671 cm_672 cm_301 cm_673) rfl rfl rfl hdc_X10_advance ⟨Nat.le_of_ble_eq_true rfl, Nat.le_of_ble_eq_true rfl⟩) (cd_atO hj (by decide) (by decide)) rfl rfl hl.1 rfl (Nat.le_of_ble_eq_true rfl) dX4_readSuper_4 ⟨by (try dsimp only); omega, by (try dsimp only); omega⟩ (fun u H locs hp hw => ?_)
  obtain ⟨ca, hj, rfl⟩ := hp
  refine lv_aload_n cx.1 cx.2.1 dX4_readSuper_7 rfl (lv_at hl 0 rfl) ?_
  obtain ⟨q6, e_q6, h⟩ := md_ob h
  obtain ⟨hm7, hn7, h⟩ := cd_cks h
  have hM7 : p.2.2.1 ≤ (Sum.elim (fun (p : Int32 × cd_S × cd_B) => p.2.2) (fun (t : cd_S × cd_B) => t.2) q6).1 ∧ p.2.2.2 ≤ (Sum.elim (fun (p : Int32 × cd_S × cd_B) => p.2.2) (fun (t : cd_S × cd_B) => t.2) q6).2 := ⟨hm7, hn7⟩
  cases q6 with
  | inr t6 =>
    exact nomatch Option.some.inj h
  | inl p6 =>
    have hle6 := (kc_X4_needName l D cA E sz ad _ hj oq sgq sgv hE n p5.2 b0  p6 e_q6).1
    have hM10007 : p.2.2.1 ≤ p6.2.2.1 ∧ p.2.2.2 ≤ p6.2.2.2 := hM7
    have h := cd_inl h
    refine hp_callVv (As := []) (rest := []) cx hw ((kc_X4_needName l D cA E _ ad _ hj oq sgq sgv hE n p5.2 b0  p6 e_q6).2) (cwV 0 cx.2.2.2.2.2.1 (cd_giV cm_687 cm_688 cm_689 cm_663 cm_690) rfl rfl rfl hdc_X4_needName ⟨Nat.le_of_ble_eq_true rfl, Nat.le_of_ble_eq_true rfl⟩) (cd_atO hj (by decide) (by decide)) rfl rfl hl.1 rfl (Nat.le_of_ble_eq_true rfl) dX4_readSuper_8 ⟨by (try dsimp only); omega, by (try dsimp only); omega⟩ (fun u H locs hp hw => ?_)
    obtain ⟨ca, hj, rfl⟩ := hp
    refine W.widen (k := b0.1 - p6.2.2.1) (n := b0.2 - p6.2.2.2) (by omega) (by omega) ?_
    refine lv_aload_n cx.1 cx.2.1 dX4_readSuper_11 rfl (lv_at hl 0 rfl) ?_
    refine cd_gO (o2 := 2) (e2 := 0) (o := 4) (k := 1) (f := 129) hj cx hw hic4 rfl ⟨by decide, rfl, by decide, rfl⟩ rfl (by decide) ⟨rfl, rfl⟩ (List.mem_cons_of_mem _ cm_722) dX4_readSuper_12 ?_
    refine lv_aload_n cx.1 cx.2.1 dX4_readSuper_15 rfl (lv_at hl 0 rfl) ?_
    refine cd_gO (o2 := 10) (e2 := 0) (o := 4) (k := 0) (f := 128) hj cx hw hic4 rfl ⟨by decide, rfl, by decide, rfl⟩ rfl (by decide) ⟨rfl, rfl⟩ (List.mem_cons_of_mem _ cm_658) dX4_readSuper_16 ?_
    refine cd_gJ (o := 10) (k := 10) (f := 330) hj cx hw hic10 rfl ⟨by decide, rfl, by decide, rfl⟩ rfl (by decide) (List.mem_cons_of_mem _ cm_695) dX4_readSuper_19 ?_
    obtain ⟨p8, e_p8, h⟩ := md_ob h
    refine hp_callVi (As := [.long (cJ p6.2.1 330 0)]) (rest := []) cx hw (kc_X2_findModule l D cA E _ ad _ hj oq sgq sgv hE n p6.2.1 ((cJ p6.2.1 330 0)) p8 e_p8) (cwV 1 cx.2.2.2.2.2.1 (cd_giV cm_823 cm_824 cm_825 cm_167 cm_826) rfl rfl rfl hdc_X2_findModule ⟨Nat.le_of_ble_eq_true rfl, Nat.le_of_ble_eq_true rfl⟩) (cd_atO hj (by decide) (by decide)) rfl rfl hl.1 rfl (Nat.le_of_ble_eq_true rfl) dX4_readSuper_22 ⟨by (try dsimp only); omega, by (try dsimp only); omega⟩ (fun r u H locs hp hw => ?_)
    obtain ⟨rfl, ca, hj, rfl⟩ := hp
    refine lv_istore_n (lv' := [(1, .int p8.1), (0, .ref (ad 4 0))]) cx.1 cx.2.1 dX4_readSuper_25 rfl hl (by decide) rfl (fun ls hl => ?_)
    refine lv_iload_n cx.1 cx.2.1 dX4_readSuper_26 rfl (lv_at hl 0 rfl) ?_
    refine lv_iconst (v := (-1)) cx.1 cx.2.1 dX4_readSuper_27 (by decide) ?_
    refine lv_icmp_eq (tgt := 39) cx.1 cx.2.1 dX4_readSuper_28 (by decide) (fun c28 => ?_) (fun c28 => ?_)
    · have h := md_ip c28 h
      exact J39 _ hj p8.2 (p6.2.2) (p8.1) _ _ _ (by omega) (by omega) (by omega) (by omega) h hw (lv_sub hl [1, 0] rfl)
    · have h := md_in c28 h
      refine lv_iload_n cx.1 cx.2.1 dX4_readSuper_31 rfl (lv_at hl 0 rfl) ?_
      refine lv_aload_n cx.1 cx.2.1 dX4_readSuper_32 rfl (lv_at hl 1 rfl) ?_
      refine cd_gI (o := 4) (k := 9) (f := 137) hj cx hw hic4 rfl ⟨by decide, rfl, by decide, rfl⟩ rfl (by decide) (List.mem_cons_of_mem _ cm_734) dX4_readSuper_33 ?_
      refine lv_icmp_ne (tgt := 51) cx.1 cx.2.1 dX4_readSuper_36 (by decide) (fun c36 => ?_) (fun c36 => ?_)
      · have h := md_in c36 h
        exact J51 _ hj p8.2 (p6.2.2) (p8.1) _ _ _ (by omega) (by omega) (by omega) (by omega) h hw (lv_sub hl [1, 0] rfl)
      · have h := md_ip c36 h
        exact J39 _ hj p8.2 (p6.2.2) (p8.1) _ _ _ (by omega) (by omega) (by omega) (by omega) h hw (lv_sub hl [1, 0] rfl)
set_option maxHeartbeats 4000000 in
set_option maxRecDepth 100000 in
theorem kc_X4_readModule (l : Launch) (D : va_G) (cA : Nat → ClassId) (E : hp_N) (sz : Nat) (ad : Nat → Nat → Nat) (ca0 : Nat → Nat) (hj : cd_inj ad ca0) (oq sgq sgv : Nat) (hE : cd_E E oq sgq sgv) (n : Nat) (σ0 : cd_S) (b0 : cd_B) (p : (Int32 × cd_S × cd_B)) (h : f_X4_readModule n σ0 b0 = some (Sum.inl p)) : (p.2.2.1 ≤ b0.1 ∧ p.2.2.2 ≤ b0.2) ∧ Met l yX4_readModule (Cond.code yX4_readModule cX4_readModule 2 none :: v_CLS) ({ frames := 418, cells := b0.1 - p.2.2.1, slots := b0.2 - p.2.2.2, locals := 10729 }) (hp_Pc D vwCl (hp_Tl cA) E sz (cd_pic cA ad ca0 σ0) [.ref (ad 4 0)]) (hp_Qv D vwCl (hp_Tl cA) sz (cd_pic cA ad ca0 σ0) (fun u => ∃ ca1, cd_inj ad ca1 ∧ u = cd_pic cA ad ca1 p.2.1)) (b0.1 - p.2.2.1) (b0.2 - p.2.2.2) (hp_A (cd_pic cA ad ca0 σ0) sz) := by
  obtain ⟨hm0, hn0, h⟩ := cd_cks h
  have hM0 : p.2.2.1 ≤ b0.1 ∧ p.2.2.2 ≤ b0.2 := ⟨hm0, hn0⟩
  refine ⟨hM0, ?_⟩
  refine hp_ofW (cc := cX4_readModule) (maxL := 2) (ret := none) (by decide) rfl (Nat.le_of_ble_eq_true rfl) ?_
  intro pp ee ss mm bb mt cd ls cx hsz hw hl
  have hl : lv_has ls 2 [(0, .ref (ad 4 0))] := hl
  refine W.widen (k := b0.1 - b0.1) (n := b0.2 - b0.2) (Nat.zero_le _) (Nat.zero_le _) ?_
  have J123 : ∀ (ca : Nat → Nat) (hj : cd_inj ad ca) (σ : cd_S) (b : cd_B) (H : Heap) (locs : List Loc) (ls : Array Slot), b.1 ≤ b0.1 → b.2 ≤ b0.2 → p.2.2.1 ≤ b.1 → p.2.2.2 ≤ b.2 → f_X4_readModule_J123 n σ b = some (Sum.inl p) → hp_w D vwCl (hp_Tl cA) E (hp_A (cd_pic cA ad ca0 σ0) sz) ss H locs (cd_pic cA ad ca σ) → lv_has ls 2 [(0, .ref (ad 4 0))] → W pp l ee ({ frames := 418, cells := b0.1 - p.2.2.1, slots := b0.2 - p.2.2.2, locals := 10729 }) ss mm [.ref (ad 4 0)].toArray bb mt cd H locs (b0.1 - b.1) (b0.2 - b.2) (MQ bb (hp_Qv D vwCl (hp_Tl cA) sz (cd_pic cA ad ca0 σ0) (fun u => ∃ ca1, cd_inj ad ca1 ∧ u = cd_pic cA ad ca1 p.2.1)) [.ref (ad 4 0)].toArray ss (b0.1 - p.2.2.1) (b0.2 - p.2.2.2) (hp_A (cd_pic cA ad ca0 σ0) sz)) (F0 mm 123 ls []) := by
    intro ca hj σ b H locs ls hb1 hb2 hf1 hf2 h hw hl
    refine lv_aload_n cx.1 cx.2.1 dX4_readModule_123 rfl (lv_at hl 0 rfl) ?_
    refine lv_bipush (v := 123) cx.1 cx.2.1 dX4_readModule_124 (by decide) ?_
    obtain ⟨q1, e_q1, h⟩ := md_ob h
    obtain ⟨hm2, hn2, h⟩ := cd_cks h
    have hM2 : p.2.2.1 ≤ (Sum.elim (fun (p : Int32 × cd_S × cd_B) => p.2.2) (fun (t : cd_S × cd_B) => t.2) q1).1 ∧ p.2.2.2 ≤ (Sum.elim (fun (p : Int32 × cd_S × cd_B) => p.2.2) (fun (t : cd_S × cd_B) => t.2) q1).2 := ⟨hm2, hn2⟩
    cases q1 with
    | inr t1 =>
      exact nomatch Option.some.inj h
    | inl p1 =>
      have hle1 := (kc_X4_pass l D cA E sz ad _ hj oq sgq sgv hE n σ b (123 : Int32) p1 e_q1).1
      have hM10002 : p.2.2.1 ≤ p1.2.2.1 ∧ p.2.2.2 ≤ p1.2.2.2 := hM2
      have h := cd_inl h
      refine hp_callVv (As := [.int 123]) (rest := []) cx hw ((kc_X4_pass l D cA E _ ad _ hj oq sgq sgv hE n σ b (123 : Int32) p1 e_q1).2) (cwV 1 cx.2.2.2.2.2.1 (cd_giV cm_714 cm_715 cm_716 cm_663 cm_717) rfl rfl rfl hdc_X4_pass ⟨Nat.le_of_ble_eq_true rfl, Nat.le_of_ble_eq_true rfl⟩) (cd_atO hj (by decide) (by decide)) rfl rfl hl.1 rfl (Nat.le_of_ble_eq_true rfl) dX4_readModule_126 ⟨by (try dsimp only); omega, by (try dsimp only); omega⟩ (fun u H locs hp hw => ?_)
      obtain ⟨ca, hj, rfl⟩ := hp
      refine W.widen (k := b0.1 - p1.2.2.1) (n := b0.2 - p1.2.2.2) (by omega) (by omega) ?_
      refine lv_iconst (v := 0) cx.1 cx.2.1 dX4_readModule_129 (by decide) ?_
      refine lv_istore_n (lv' := [(1, .int 0), (0, .ref (ad 4 0))]) cx.1 cx.2.1 dX4_readModule_130 rfl hl (by decide) rfl (fun ls hl => ?_)
      have L131 : ∀ (j : Nat) (ca : Nat → Nat) (hj : cd_inj ad ca) (σ : cd_S) (b : cd_B) (l1 : Int32) (q : (((Int32 × cd_S × cd_B) ⊕ (cd_S × cd_B)) ⊕ (cd_S × cd_B × Int32))) (H : Heap) (locs : List Loc) (ls : Array Slot), b.1 ≤ b0.1 → b.2 ≤ b0.2 → p.2.2.1 ≤ b.1 → p.2.2.2 ≤ b.2 → p.2.2.1 ≤ (Sum.elim (fun (q : ((Int32 × cd_S × cd_B) ⊕ (cd_S × cd_B))) => Sum.elim (fun (p : (Int32 × cd_S × cd_B)) => p.2.2) (fun (t : cd_S × cd_B) => t.2) q) (fun (q : cd_S × cd_B × Int32) => q.2.1) q).1 → p.2.2.2 ≤ (Sum.elim (fun (q : ((Int32 × cd_S × cd_B) ⊕ (cd_S × cd_B))) => Sum.elim (fun (p : (Int32 × cd_S × cd_B)) => p.2.2) (fun (t : cd_S × cd_B) => t.2) q) (fun (q : cd_S × cd_B × Int32) => q.2.1) q).2 → f_X4_readModule_L131 n j σ b l1 = some q → hp_w D vwCl (hp_Tl cA) E (hp_A (cd_pic cA ad ca0 σ0) sz) ss H locs (cd_pic cA ad ca σ) → lv_has ls 2 [(0, .ref (ad 4 0)), (1, .int l1)] → (∀ t, q = Sum.inr t → (∀ (ca : Nat → Nat) (hj : cd_inj ad ca) (H : Heap) (locs : List Loc) (ls : Array Slot), t.2.1.1 ≤ b0.1 → t.2.1.2 ≤ b0.2 → hp_w D vwCl (hp_Tl cA) E (hp_A (cd_pic cA ad ca0 σ0) sz) ss H locs (cd_pic cA ad ca t.1) → lv_has ls 2 [(0, .ref (ad 4 0))] → W pp l ee ({ frames := 418, cells := b0.1 - p.2.2.1, slots := b0.2 - p.2.2.2, locals := 10729 }) ss mm [.ref (ad 4 0)].toArray bb mt cd H locs (b0.1 - t.2.1.1) (b0.2 - t.2.1.2) (MQ bb (hp_Qv D vwCl (hp_Tl cA) sz (cd_pic cA ad ca0 σ0) (fun u => ∃ ca1, cd_inj ad ca1 ∧ u = cd_pic cA ad ca1 p.2.1)) [.ref (ad 4 0)].toArray ss (b0.1 - p.2.2.1) (b0.2 - p.2.2.2) (hp_A (cd_pic cA ad ca0 σ0) sz)) (F0 mm 159 ls []))) → (∀ r, q = Sum.inl r → r = Sum.inl p) → W pp l ee ({ frames := 418, cells := b0.1 - p.2.2.1, slots := b0.2 - p.2.2.2, locals := 10729 }) ss mm [.ref (ad 4 0)].toArray bb mt cd H locs (b0.1 - b.1) (b0.2 - b.2) (MQ bb (hp_Qv D vwCl (hp_Tl cA) sz (cd_pic cA ad ca0 σ0) (fun u => ∃ ca1, cd_inj ad ca1 ∧ u = cd_pic cA ad ca1 p.2.1)) [.ref (ad 4 0)].toArray ss (b0.1 - p.2.2.1) (b0.2 - p.2.2.2) (hp_A (cd_pic cA ad ca0 σ0) sz)) (F0 mm 131 ls []) := by
        intro j
        induction j with
        | zero => intro ca hj σ b l1 q H locs ls hb1 hb2 hf1 hf2 hq1 hq2 h; exact nomatch h
        | succ j ih =>
          intro ca hj σ b l1 q H locs ls hb1 hb2 hf1 hf2 hq1 hq2 h hw hl K KR
          unfold f_X4_readModule_L131 at h
          refine lv_iload_n cx.1 cx.2.1 dX4_readModule_131 rfl (lv_at hl 1 rfl) ?_
          refine lv_iconst (v := 4) cx.1 cx.2.1 dX4_readModule_132 (by decide) ?_
          refine lv_icmp_gt (tgt := 159) cx.1 cx.2.1 dX4_readModule_133 (by decide) (fun c133 => ?_) (fun c133 => ?_)
          · have h := md_ip c133 h
            exact K _ (Option.some.inj h).symm _ hj _ _ _ (by (try dsimp only); omega) (by (try dsimp only); omega) hw (lv_sub hl [0] rfl)
          · have h := md_in c133 h
            refine lv_aload_n cx.1 cx.2.1 dX4_readModule_136 rfl (lv_at hl 0 rfl) ?_
            refine cd_gO (o2 := 10) (e2 := 0) (o := 4) (k := 0) (f := 128) hj cx hw hic4 rfl ⟨by decide, rfl, by decide, rfl⟩ rfl (by decide) ⟨rfl, rfl⟩ (List.mem_cons_of_mem _ cm_658) dX4_readModule_137 ?_
            refine cd_gI (o := 10) (k := 8) (f := 328) hj cx hw hic10 rfl ⟨by decide, rfl, by decide, rfl⟩ rfl (by decide) (List.mem_cons_of_mem _ cm_665) dX4_readModule_140 ?_
            refine lv_sipush (v := 212) cx.1 cx.2.1 dX4_readModule_143 (by decide) ?_
            refine lv_icmp_ne (tgt := 159) cx.1 cx.2.1 dX4_readModule_146 (by decide) (fun c146 => ?_) (fun c146 => ?_)
            · have h := md_in c146 h
              exact K _ (Option.some.inj h).symm _ hj _ _ _ (by (try dsimp only); omega) (by (try dsimp only); omega) hw (lv_sub hl [0] rfl)
            · have h := md_ip c146 h
              refine lv_aload_n cx.1 cx.2.1 dX4_readModule_149 rfl (lv_at hl 0 rfl) ?_
              obtain ⟨q3, e_q3, h⟩ := md_ob h
              obtain ⟨hm4, hn4, h⟩ := cd_cks h
              have hM4 : p.2.2.1 ≤ (Sum.elim (fun (p : Int32 × cd_S × cd_B) => p.2.2) (fun (t : cd_S × cd_B) => t.2) q3).1 ∧ p.2.2.2 ≤ (Sum.elim (fun (p : Int32 × cd_S × cd_B) => p.2.2) (fun (t : cd_S × cd_B) => t.2) q3).2 := ⟨Nat.le_trans hq1 hm4, Nat.le_trans hq2 hn4⟩
              cases q3 with
              | inr t3 =>
                exact nomatch KR _ (Option.some.inj h).symm
              | inl p3 =>
                have hle3 := (kc_X4_readField l D cA E sz ad _ hj oq sgq sgv hE n σ b  p3 e_q3).1
                have hM10004 : p.2.2.1 ≤ p3.2.2.1 ∧ p.2.2.2 ≤ p3.2.2.2 := hM4
                have h := cd_inl h
                refine hp_callVv (As := []) (rest := []) cx hw ((kc_X4_readField l D cA E _ ad _ hj oq sgq sgv hE n σ b  p3 e_q3).2) (cwV 0 cx.2.2.2.2.2.1 (cd_giV cm_973 cm_974 cm_975 cm_663 cm_976) rfl rfl rfl hdc_X4_readField ⟨Nat.le_of_ble_eq_true rfl, Nat.le_of_ble_eq_true rfl⟩) (cd_atO hj (by decide) (by decide)) rfl rfl hl.1 rfl (Nat.le_of_ble_eq_true rfl) dX4_readModule_150 ⟨by (try dsimp only); omega, by (try dsimp only); omega⟩ (fun u H locs hp hw => ?_)
                obtain ⟨ca, hj, rfl⟩ := hp
                refine W.widen (k := b0.1 - p3.2.2.1) (n := b0.2 - p3.2.2.2) (by omega) (by omega) ?_
                refine lv_iinc (v := (l1 + 1)) (lv' := [(1, .int (l1 + 1)), (0, .ref (ad 4 0))]) cx.1 cx.2.1 dX4_readModule_153 hl (k := 1) rfl rfl (by decide) rfl (fun ls hl => ?_)
                refine lv_goto (tgt := 131) cx.1 cx.2.1 dX4_readModule_156 (by decide) ?_
                exact ih _ hj p3.2.1 (p3.2.2) ((l1 + 1)) q _ _ _ (by omega) (by omega) (by omega) (by omega) hq1 hq2 h hw (lv_sub hl [1, 0] rfl) K KR
      obtain ⟨q5, e_q5, h⟩ := md_ob h
      obtain ⟨hm6, hn6, h⟩ := cd_cks h
      have hM6 : p.2.2.1 ≤ (Sum.elim (fun (q : ((Int32 × cd_S × cd_B) ⊕ (cd_S × cd_B))) => Sum.elim (fun (p : (Int32 × cd_S × cd_B)) => p.2.2) (fun (t : cd_S × cd_B) => t.2) q) (fun (q : cd_S × cd_B × Int32) => q.2.1) q5).1 ∧ p.2.2.2 ≤ (Sum.elim (fun (q : ((Int32 × cd_S × cd_B) ⊕ (cd_S × cd_B))) => Sum.elim (fun (p : (Int32 × cd_S × cd_B)) => p.2.2) (fun (t : cd_S × cd_B) => t.2) q) (fun (q : cd_S × cd_B × Int32) => q.2.1) q5).2 := ⟨hm6, hn6⟩
      refine L131 n _ hj p1.2.1 (p1.2.2) 0 q5 _ _ _ (by omega) (by omega) (by omega) (by omega) hM6.1 hM6.2 e_q5 hw (lv_sub hl [1, 0] rfl) (fun t5 hq5 ca hj H locs ls hb1 hb2 hw hl => ?_) (fun r hr => by subst hr; exact Option.some.inj h)
      subst hq5
      have h := md_inr h
      have hS6 : p.2.2.1 ≤ t5.2.1.1 ∧ p.2.2.2 ≤ t5.2.1.2 := hM6
      refine lv_iconst (v := 0) cx.1 cx.2.1 dX4_readModule_159 (by decide) ?_
      refine lv_istore_n (lv' := [(1, .int 0), (0, .ref (ad 4 0))]) cx.1 cx.2.1 dX4_readModule_160 rfl hl (by decide) rfl (fun ls hl => ?_)
      have L161 : ∀ (j : Nat) (ca : Nat → Nat) (hj : cd_inj ad ca) (σ : cd_S) (b : cd_B) (l1 : Int32) (q : (((Int32 × cd_S × cd_B) ⊕ (cd_S × cd_B)) ⊕ (cd_S × cd_B × Int32))) (H : Heap) (locs : List Loc) (ls : Array Slot), b.1 ≤ b0.1 → b.2 ≤ b0.2 → p.2.2.1 ≤ b.1 → p.2.2.2 ≤ b.2 → p.2.2.1 ≤ (Sum.elim (fun (q : ((Int32 × cd_S × cd_B) ⊕ (cd_S × cd_B))) => Sum.elim (fun (p : (Int32 × cd_S × cd_B)) => p.2.2) (fun (t : cd_S × cd_B) => t.2) q) (fun (q : cd_S × cd_B × Int32) => q.2.1) q).1 → p.2.2.2 ≤ (Sum.elim (fun (q : ((Int32 × cd_S × cd_B) ⊕ (cd_S × cd_B))) => Sum.elim (fun (p : (Int32 × cd_S × cd_B)) => p.2.2) (fun (t : cd_S × cd_B) => t.2) q) (fun (q : cd_S × cd_B × Int32) => q.2.1) q).2 → f_X4_readModule_L161 n j σ b l1 = some q → hp_w D vwCl (hp_Tl cA) E (hp_A (cd_pic cA ad ca0 σ0) sz) ss H locs (cd_pic cA ad ca σ) → lv_has ls 2 [(0, .ref (ad 4 0)), (1, .int l1)] → (∀ t, q = Sum.inr t → (∀ (ca : Nat → Nat) (hj : cd_inj ad ca) (H : Heap) (locs : List Loc) (ls : Array Slot), t.2.1.1 ≤ b0.1 → t.2.1.2 ≤ b0.2 → hp_w D vwCl (hp_Tl cA) E (hp_A (cd_pic cA ad ca0 σ0) sz) ss H locs (cd_pic cA ad ca t.1) → lv_has ls 2 [(0, .ref (ad 4 0))] → W pp l ee ({ frames := 418, cells := b0.1 - p.2.2.1, slots := b0.2 - p.2.2.2, locals := 10729 }) ss mm [.ref (ad 4 0)].toArray bb mt cd H locs (b0.1 - t.2.1.1) (b0.2 - t.2.1.2) (MQ bb (hp_Qv D vwCl (hp_Tl cA) sz (cd_pic cA ad ca0 σ0) (fun u => ∃ ca1, cd_inj ad ca1 ∧ u = cd_pic cA ad ca1 p.2.1)) [.ref (ad 4 0)].toArray ss (b0.1 - p.2.2.1) (b0.2 - p.2.2.2) (hp_A (cd_pic cA ad ca0 σ0) sz)) (F0 mm 188 ls []))) → (∀ r, q = Sum.inl r → r = Sum.inl p) → W pp l ee ({ frames := 418, cells := b0.1 - p.2.2.1, slots := b0.2 - p.2.2.2, locals := 10729 }) ss mm [.ref (ad 4 0)].toArray bb mt cd H locs (b0.1 - b.1) (b0.2 - b.2) (MQ bb (hp_Qv D vwCl (hp_Tl cA) sz (cd_pic cA ad ca0 σ0) (fun u => ∃ ca1, cd_inj ad ca1 ∧ u = cd_pic cA ad ca1 p.2.1)) [.ref (ad 4 0)].toArray ss (b0.1 - p.2.2.1) (b0.2 - p.2.2.2) (hp_A (cd_pic cA ad ca0 σ0) sz)) (F0 mm 161 ls []) := by
        intro j
        induction j with
        | zero => intro ca hj σ b l1 q H locs ls hb1 hb2 hf1 hf2 hq1 hq2 h; exact nomatch h
        | succ j ih =>
          intro ca hj σ b l1 q H locs ls hb1 hb2 hf1 hf2 hq1 hq2 h hw hl K KR
          unfold f_X4_readModule_L161 at h
          refine lv_iload_n cx.1 cx.2.1 dX4_readModule_161 rfl (lv_at hl 1 rfl) ?_
          refine lv_bipush (v := 12) cx.1 cx.2.1 dX4_readModule_162 (by decide) ?_
          refine lv_icmp_gt (tgt := 188) cx.1 cx.2.1 dX4_readModule_164 (by decide) (fun c164 => ?_) (fun c164 => ?_)
          · have h := md_ip c164 h
            exact K _ (Option.some.inj h).symm _ hj _ _ _ (by (try dsimp only); omega) (by (try dsimp only); omega) hw (lv_sub hl [0] rfl)
          · have h := md_in c164 h
            refine lv_aload_n cx.1 cx.2.1 dX4_readModule_167 rfl (lv_at hl 0 rfl) ?_
            refine cd_gO (o2 := 10) (e2 := 0) (o := 4) (k := 0) (f := 128) hj cx hw hic4 rfl ⟨by decide, rfl, by decide, rfl⟩ rfl (by decide) ⟨rfl, rfl⟩ (List.mem_cons_of_mem _ cm_658) dX4_readModule_168 ?_
            refine cd_gI (o := 10) (k := 8) (f := 328) hj cx hw hic10 rfl ⟨by decide, rfl, by decide, rfl⟩ rfl (by decide) (List.mem_cons_of_mem _ cm_665) dX4_readModule_171 ?_
            refine lv_iconst (v := 2) cx.1 cx.2.1 dX4_readModule_174 (by decide) ?_
            refine lv_icmp_ne (tgt := 188) cx.1 cx.2.1 dX4_readModule_175 (by decide) (fun c175 => ?_) (fun c175 => ?_)
            · have h := md_in c175 h
              exact K _ (Option.some.inj h).symm _ hj _ _ _ (by (try dsimp only); omega) (by (try dsimp only); omega) hw (lv_sub hl [0] rfl)
            · have h := md_ip c175 h
              refine lv_aload_n cx.1 cx.2.1 dX4_readModule_178 rfl (lv_at hl 0 rfl) ?_
              obtain ⟨q7, e_q7, h⟩ := md_ob h
              obtain ⟨hm8, hn8, h⟩ := cd_cks h
              have hM8 : p.2.2.1 ≤ (Sum.elim (fun (p : Int32 × cd_S × cd_B) => p.2.2) (fun (t : cd_S × cd_B) => t.2) q7).1 ∧ p.2.2.2 ≤ (Sum.elim (fun (p : Int32 × cd_S × cd_B) => p.2.2) (fun (t : cd_S × cd_B) => t.2) q7).2 := ⟨Nat.le_trans hq1 hm8, Nat.le_trans hq2 hn8⟩
              cases q7 with
              | inr t7 =>
                exact nomatch KR _ (Option.some.inj h).symm
              | inl p7 =>
                have hle7 := (kc_X4_readMethod l D cA E sz ad _ hj oq sgq sgv hE n σ b  p7 e_q7).1
                have hM10008 : p.2.2.1 ≤ p7.2.2.1 ∧ p.2.2.2 ≤ p7.2.2.2 := hM8
                have h := cd_inl h
                refine hp_callVv (As := []) (rest := []) cx hw ((kc_X4_readMethod l D cA E _ ad _ hj oq sgq sgv hE n σ b  p7 e_q7).2) (cwV 0 cx.2.2.2.2.2.1 (cd_giV cm_977 cm_978 cm_979 cm_663 cm_980) rfl rfl rfl hdc_X4_readMethod ⟨Nat.le_of_ble_eq_true rfl, Nat.le_of_ble_eq_true rfl⟩) (cd_atO hj (by decide) (by decide)) rfl rfl hl.1 rfl (Nat.le_of_ble_eq_true rfl) dX4_readModule_179 ⟨by (try dsimp only); omega, by (try dsimp only); omega⟩ (fun u H locs hp hw => ?_)
                obtain ⟨ca, hj, rfl⟩ := hp
                refine W.widen (k := b0.1 - p7.2.2.1) (n := b0.2 - p7.2.2.2) (by omega) (by omega) ?_
                refine lv_iinc (v := (l1 + 1)) (lv' := [(1, .int (l1 + 1)), (0, .ref (ad 4 0))]) cx.1 cx.2.1 dX4_readModule_182 hl (k := 1) rfl rfl (by decide) rfl (fun ls hl => ?_)
                refine lv_goto (tgt := 161) cx.1 cx.2.1 dX4_readModule_185 (by decide) ?_
                exact ih _ hj p7.2.1 (p7.2.2) ((l1 + 1)) q _ _ _ (by omega) (by omega) (by omega) (by omega) hq1 hq2 h hw (lv_sub hl [1, 0] rfl) K KR
      obtain ⟨q9, e_q9, h⟩ := md_ob h
      obtain ⟨hm10, hn10, h⟩ := cd_cks h
      have hM10 : p.2.2.1 ≤ (Sum.elim (fun (q : ((Int32 × cd_S × cd_B) ⊕ (cd_S × cd_B))) => Sum.elim (fun (p : (Int32 × cd_S × cd_B)) => p.2.2) (fun (t : cd_S × cd_B) => t.2) q) (fun (q : cd_S × cd_B × Int32) => q.2.1) q9).1 ∧ p.2.2.2 ≤ (Sum.elim (fun (q : ((Int32 × cd_S × cd_B) ⊕ (cd_S × cd_B))) => Sum.elim (fun (p : (Int32 × cd_S × cd_B)) => p.2.2) (fun (t : cd_S × cd_B) => t.2) q) (fun (q : cd_S × cd_B × Int32) => q.2.1) q9).2 := ⟨hm10, hn10⟩
      refine L161 n _ hj t5.1 (t5.2.1) 0 q9 _ _ _ (by omega) (by omega) (by omega) (by omega) hM10.1 hM10.2 e_q9 hw (lv_sub hl [1, 0] rfl) (fun t9 hq9 ca hj H locs ls hb1 hb2 hw hl => ?_) (fun r hr => by subst hr; exact Option.some.inj h)
      subst hq9
      have h := md_inr h
      have hS10 : p.2.2.1 ≤ t9.2.1.1 ∧ p.2.2.2 ≤ t9.2.1.2 := hM10
      refine lv_aload_n cx.1 cx.2.1 dX4_readModule_188 rfl (lv_at hl 0 rfl) ?_
      refine lv_bipush (v := 125) cx.1 cx.2.1 dX4_readModule_189 (by decide) ?_
      obtain ⟨q11, e_q11, h⟩ := md_ob h
      obtain ⟨hm12, hn12, h⟩ := cd_cks h
      have hM12 : p.2.2.1 ≤ (Sum.elim (fun (p : Int32 × cd_S × cd_B) => p.2.2) (fun (t : cd_S × cd_B) => t.2) q11).1 ∧ p.2.2.2 ≤ (Sum.elim (fun (p : Int32 × cd_S × cd_B) => p.2.2) (fun (t : cd_S × cd_B) => t.2) q11).2 := ⟨hm12, hn12⟩
      cases q11 with
      | inr t11 =>
        exact nomatch Option.some.inj h
      | inl p11 =>
        have hle11 := (kc_X4_pass l D cA E sz ad _ hj oq sgq sgv hE n t9.1 (t9.2.1) (125 : Int32) p11 e_q11).1
        have hM10012 : p.2.2.1 ≤ p11.2.2.1 ∧ p.2.2.2 ≤ p11.2.2.2 := hM12
        have h := cd_inl h
        refine hp_callVv (As := [.int 125]) (rest := []) cx hw ((kc_X4_pass l D cA E _ ad _ hj oq sgq sgv hE n t9.1 (t9.2.1) (125 : Int32) p11 e_q11).2) (cwV 1 cx.2.2.2.2.2.1 (cd_giV cm_714 cm_715 cm_716 cm_663 cm_717) rfl rfl rfl hdc_X4_pass ⟨Nat.le_of_ble_eq_true rfl, Nat.le_of_ble_eq_true rfl⟩) (cd_atO hj (by decide) (by decide)) rfl rfl hl.1 rfl (Nat.le_of_ble_eq_true rfl) dX4_readModule_191 ⟨by (try dsimp only); omega, by (try dsimp only); omega⟩ (fun u H locs hp hw => ?_)
        obtain ⟨ca, hj, rfl⟩ := hp
        refine W.widen (k := b0.1 - p11.2.2.1) (n := b0.2 - p11.2.2.2) (by omega) (by omega) ?_
        exact hp_vret cx hw ((cd_retb hj (congrArg some (Sum.inl.inj (Option.some.inj h)))).2) dX4_readModule_194 (cd_le1 (congrArg some (Sum.inl.inj (Option.some.inj h)))) (cd_le2 (congrArg some (Sum.inl.inj (Option.some.inj h))))
  have J62 : ∀ (ca : Nat → Nat) (hj : cd_inj ad ca) (σ : cd_S) (b : cd_B) (H : Heap) (locs : List Loc) (ls : Array Slot), b.1 ≤ b0.1 → b.2 ≤ b0.2 → p.2.2.1 ≤ b.1 → p.2.2.2 ≤ b.2 → f_X4_readModule_J62 n σ b = some (Sum.inl p) → hp_w D vwCl (hp_Tl cA) E (hp_A (cd_pic cA ad ca0 σ0) sz) ss H locs (cd_pic cA ad ca σ) → lv_has ls 2 [(0, .ref (ad 4 0))] → W pp l ee ({ frames := 418, cells := b0.1 - p.2.2.1, slots := b0.2 - p.2.2.2, locals := 10729 }) ss mm [.ref (ad 4 0)].toArray bb mt cd H locs (b0.1 - b.1) (b0.2 - b.2) (MQ bb (hp_Qv D vwCl (hp_Tl cA) sz (cd_pic cA ad ca0 σ0) (fun u => ∃ ca1, cd_inj ad ca1 ∧ u = cd_pic cA ad ca1 p.2.1)) [.ref (ad 4 0)].toArray ss (b0.1 - p.2.2.1) (b0.2 - p.2.2.2) (hp_A (cd_pic cA ad ca0 σ0) sz)) (F0 mm 62 ls []) := by
    intro ca hj σ b H locs ls hb1 hb2 hf1 hf2 h hw hl
    refine lv_aload_n cx.1 cx.2.1 dX4_readModule_62 rfl (lv_at hl 0 rfl) ?_
    refine lv_aload_n cx.1 cx.2.1 dX4_readModule_63 rfl (lv_at hl 0 rfl) ?_
    refine cd_gO (o2 := 2) (e2 := 0) (o := 4) (k := 1) (f := 129) hj cx hw hic4 rfl ⟨by decide, rfl, by decide, rfl⟩ rfl (by decide) ⟨rfl, rfl⟩ (List.mem_cons_of_mem _ cm_722) dX4_readModule_64 ?_
    refine lv_aload_n cx.1 cx.2.1 dX4_readModule_67 rfl (lv_at hl 0 rfl) ?_
    refine cd_gO (o2 := 10) (e2 := 0) (o := 4) (k := 0) (f := 128) hj cx hw hic4 rfl ⟨by decide, rfl, by decide, rfl⟩ rfl (by decide) ⟨rfl, rfl⟩ (List.mem_cons_of_mem _ cm_658) dX4_readModule_68 ?_
    refine cd_gJ (o := 10) (k := 10) (f := 330) hj cx hw hic10 rfl ⟨by decide, rfl, by decide, rfl⟩ rfl (by decide) (List.mem_cons_of_mem _ cm_695) dX4_readModule_71 ?_
    obtain ⟨p13, e_p13, h⟩ := md_ob h
    refine hp_callVi (As := [.long (cJ σ 330 0)]) (rest := [.ref (ad 4 0)]) cx hw (kc_X2_addModule l D cA E _ ad _ hj oq sgq sgv hE n σ ((cJ σ 330 0)) p13 e_p13) (cwV 1 cx.2.2.2.2.2.1 (cd_giV cm_961 cm_962 cm_963 cm_167 cm_964) rfl rfl rfl hdc_X2_addModule ⟨Nat.le_of_ble_eq_true rfl, Nat.le_of_ble_eq_true rfl⟩) (cd_atO hj (by decide) (by decide)) rfl rfl hl.1 rfl (Nat.le_of_ble_eq_true rfl) dX4_readModule_74 ⟨by (try dsimp only); omega, by (try dsimp only); omega⟩ (fun r u H locs hp hw => ?_)
    obtain ⟨rfl, ca, hj, rfl⟩ := hp
    obtain ⟨σ14, e_σ14, h⟩ := md_ob h
    refine cd_pI (o := 4) (k := 9) (f := 137) hj cx hw hic4 rfl ⟨by decide, rfl, by decide, rfl⟩ tyX4_ok nmX4 rfl (by decide) rfl (List.mem_cons_of_mem _ cm_734) rfl e_σ14 dX4_readModule_77 (fun H locs hw => ?_)
    refine lv_aload_n cx.1 cx.2.1 dX4_readModule_80 rfl (lv_at hl 0 rfl) ?_
    refine cd_gO (o2 := 10) (e2 := 0) (o := 4) (k := 0) (f := 128) hj cx hw hic4 rfl ⟨by decide, rfl, by decide, rfl⟩ rfl (by decide) ⟨rfl, rfl⟩ (List.mem_cons_of_mem _ cm_658) dX4_readModule_81 ?_
    obtain ⟨p15, e_p15, h⟩ := md_ob h
    refine hp_callVv (As := []) (rest := []) cx hw (kc_X10_advance l D cA E _ ad _ hj oq sgq sgv hE n σ14  p15 e_p15) (cwV 0 cx.2.2.2.2.2.1 (cd_giV cm_670 cm_671 cm_672 cm_301 cm_673) rfl rfl rfl hdc_X10_advance ⟨Nat.le_of_ble_eq_true rfl, Nat.le_of_ble_eq_true rfl⟩) (cd_atO hj (by decide) (by decide)) rfl rfl hl.1 rfl (Nat.le_of_ble_eq_true rfl) dX4_readModule_84 ⟨by (try dsimp only); omega, by (try dsimp only); omega⟩ (fun u H locs hp hw => ?_)
    obtain ⟨ca, hj, rfl⟩ := hp
    refine lv_aload_n cx.1 cx.2.1 dX4_readModule_87 rfl (lv_at hl 0 rfl) ?_
    refine lv_iconst (v := 1) cx.1 cx.2.1 dX4_readModule_88 (by decide) ?_
    obtain ⟨q16, e_q16, h⟩ := md_ob h
    obtain ⟨hm17, hn17, h⟩ := cd_cks h
    have hM17 : p.2.2.1 ≤ (Sum.elim (fun (p : Int32 × cd_S × cd_B) => p.2.2) (fun (t : cd_S × cd_B) => t.2) q16).1 ∧ p.2.2.2 ≤ (Sum.elim (fun (p : Int32 × cd_S × cd_B) => p.2.2) (fun (t : cd_S × cd_B) => t.2) q16).2 := ⟨hm17, hn17⟩
    cases q16 with
    | inr t16 =>
      exact nomatch Option.some.inj h
    | inl p16 =>
      have hle16 := (kc_X4_takePattern l D cA E sz ad _ hj oq sgq sgv hE n p15.2 b (1 : Int32) p16 e_q16).1
      have hM10017 : p.2.2.1 ≤ p16.2.2.1 ∧ p.2.2.2 ≤ p16.2.2.2 := hM17
      have h := cd_inl h
      refine hp_callVv (As := [.int 1]) (rest := []) cx hw ((kc_X4_takePattern l D cA E _ ad _ hj oq sgq sgv hE n p15.2 b (1 : Int32) p16 e_q16).2) (cwV 1 cx.2.2.2.2.2.1 (cd_giV cm_697 cm_698 cm_699 cm_663 cm_700) rfl rfl rfl hdc_X4_takePattern ⟨Nat.le_of_ble_eq_true rfl, Nat.le_of_ble_eq_true rfl⟩) (cd_atO hj (by decide) (by decide)) rfl rfl hl.1 rfl (Nat.le_of_ble_eq_true rfl) dX4_readModule_89 ⟨by (try dsimp only); omega, by (try dsimp only); omega⟩ (fun u H locs hp hw => ?_)
      obtain ⟨ca, hj, rfl⟩ := hp
      refine W.widen (k := b0.1 - p16.2.2.1) (n := b0.2 - p16.2.2.2) (by omega) (by omega) ?_
      refine lv_aload_n cx.1 cx.2.1 dX4_readModule_92 rfl (lv_at hl 0 rfl) ?_
      refine cd_gO (o2 := 3) (e2 := 0) (o := 4) (k := 2) (f := 130) hj cx hw hic4 rfl ⟨by decide, rfl, by decide, rfl⟩ rfl (by decide) ⟨rfl, rfl⟩ (List.mem_cons_of_mem _ cm_701) dX4_readModule_93 ?_
      refine lv_aload_n cx.1 cx.2.1 dX4_readModule_96 rfl (lv_at hl 0 rfl) ?_
      refine cd_gI (o := 4) (k := 9) (f := 137) hj cx hw hic4 rfl ⟨by decide, rfl, by decide, rfl⟩ rfl (by decide) (List.mem_cons_of_mem _ cm_734) dX4_readModule_97 ?_
      refine lv_aload_n cx.1 cx.2.1 dX4_readModule_100 rfl (lv_at hl 0 rfl) ?_
      refine cd_gO (o2 := 5) (e2 := 193) (o := 4) (k := 3) (f := 131) hj cx hw hic4 rfl ⟨by decide, rfl, by decide, rfl⟩ rfl (by decide) ⟨rfl, rfl⟩ (List.mem_cons_of_mem _ cm_682) dX4_readModule_101 ?_
      obtain ⟨p18, e_p18, h⟩ := md_ob h
      refine hp_callVv (As := [.int (cI p16.2.1 137 0), .ref (ad 5 193)]) (rest := []) cx hw (kc_X3_placeModule l D cA E _ ad _ hj oq sgq sgv hE n p16.2.1 ((cI p16.2.1 137 0)) 193 (by decide) p18 e_p18) (cwV 2 cx.2.2.2.2.2.1 (cd_giV cm_965 cm_966 cm_967 cm_332 cm_968) rfl rfl rfl hdc_X3_placeModule ⟨Nat.le_of_ble_eq_true rfl, Nat.le_of_ble_eq_true rfl⟩) (cd_atO hj (by decide) (by decide)) rfl rfl hl.1 rfl (Nat.le_of_ble_eq_true rfl) dX4_readModule_104 ⟨by (try dsimp only); omega, by (try dsimp only); omega⟩ (fun u H locs hp hw => ?_)
      obtain ⟨ca, hj, rfl⟩ := hp
      refine lv_aload_n cx.1 cx.2.1 dX4_readModule_107 rfl (lv_at hl 0 rfl) ?_
      refine cd_gO (o2 := 10) (e2 := 0) (o := 4) (k := 0) (f := 128) hj cx hw hic4 rfl ⟨by decide, rfl, by decide, rfl⟩ rfl (by decide) ⟨rfl, rfl⟩ (List.mem_cons_of_mem _ cm_658) dX4_readModule_108 ?_
      refine cd_gI (o := 10) (k := 8) (f := 328) hj cx hw hic10 rfl ⟨by decide, rfl, by decide, rfl⟩ rfl (by decide) (List.mem_cons_of_mem _ cm_665) dX4_readModule_111 ?_
      refine lv_bipush (v := 58) cx.1 cx.2.1 dX4_readModule_114 (by decide) ?_
      refine lv_icmp_ne (tgt := 123) cx.1 cx.2.1 dX4_readModule_116 (by decide) (fun c116 => ?_) (fun c116 => ?_)
      · have h := md_in c116 h
        exact J123 _ hj p18.2 (p16.2.2) _ _ _ (by omega) (by omega) (by omega) (by omega) h hw (lv_sub hl [0] rfl)
      · have h := md_ip c116 h
        refine lv_aload_n cx.1 cx.2.1 dX4_readModule_119 rfl (lv_at hl 0 rfl) ?_
        obtain ⟨q19, e_q19, h⟩ := md_ob h
        obtain ⟨hm20, hn20, h⟩ := cd_cks h
        have hM20 : p.2.2.1 ≤ (Sum.elim (fun (p : Int32 × cd_S × cd_B) => p.2.2) (fun (t : cd_S × cd_B) => t.2) q19).1 ∧ p.2.2.2 ≤ (Sum.elim (fun (p : Int32 × cd_S × cd_B) => p.2.2) (fun (t : cd_S × cd_B) => t.2) q19).2 := ⟨hm20, hn20⟩
        cases q19 with
        | inr t19 =>
          exact nomatch Option.some.inj h
        | inl p19 =>
          have hle19 := (kc_X4_readSuper l D cA E sz ad _ hj oq sgq sgv hE n p18.2 (p16.2.2)  p19 e_q19).1
          have hM10020 : p.2.2.1 ≤ p19.2.2.1 ∧ p.2.2.2 ≤ p19.2.2.2 := hM20
          have h := cd_inl h
          refine hp_callVv (As := []) (rest := []) cx hw ((kc_X4_readSuper l D cA E _ ad _ hj oq sgq sgv hE n p18.2 (p16.2.2)  p19 e_q19).2) (cwV 0 cx.2.2.2.2.2.1 (cd_giV cm_969 cm_970 cm_971 cm_663 cm_972) rfl rfl rfl hdc_X4_readSuper ⟨Nat.le_of_ble_eq_true rfl, Nat.le_of_ble_eq_true rfl⟩) (cd_atO hj (by decide) (by decide)) rfl rfl hl.1 rfl (Nat.le_of_ble_eq_true rfl) dX4_readModule_120 ⟨by (try dsimp only); omega, by (try dsimp only); omega⟩ (fun u H locs hp hw => ?_)
          obtain ⟨ca, hj, rfl⟩ := hp
          refine W.widen (k := b0.1 - p19.2.2.1) (n := b0.2 - p19.2.2.2) (by omega) (by omega) ?_
          exact J123 _ hj p19.2.1 (p19.2.2) _ _ _ (by omega) (by omega) (by omega) (by omega) h hw (lv_sub hl [0] rfl)
  have J29 : ∀ (ca : Nat → Nat) (hj : cd_inj ad ca) (σ : cd_S) (b : cd_B) (t0 : Int32) (H : Heap) (locs : List Loc) (ls : Array Slot), b.1 ≤ b0.1 → b.2 ≤ b0.2 → p.2.2.1 ≤ b.1 → p.2.2.2 ≤ b.2 → f_X4_readModule_J29 n σ b t0 = some (Sum.inl p) → hp_w D vwCl (hp_Tl cA) E (hp_A (cd_pic cA ad ca0 σ0) sz) ss H locs (cd_pic cA ad ca σ) → lv_has ls 2 [(0, .ref (ad 4 0))] → W pp l ee ({ frames := 418, cells := b0.1 - p.2.2.1, slots := b0.2 - p.2.2.2, locals := 10729 }) ss mm [.ref (ad 4 0)].toArray bb mt cd H locs (b0.1 - b.1) (b0.2 - b.2) (MQ bb (hp_Qv D vwCl (hp_Tl cA) sz (cd_pic cA ad ca0 σ0) (fun u => ∃ ca1, cd_inj ad ca1 ∧ u = cd_pic cA ad ca1 p.2.1)) [.ref (ad 4 0)].toArray ss (b0.1 - p.2.2.1) (b0.2 - p.2.2.2) (hp_A (cd_pic cA ad ca0 σ0) sz)) (F0 mm 29 ls [.int t0, .ref (ad 4 0)]) := by
    intro ca hj σ b t0 H locs ls hb1 hb2 hf1 hf2 h hw hl
    obtain ⟨q21, e_q21, h⟩ := md_ob h
    obtain ⟨hm22, hn22, h⟩ := cd_cks h
    have hM22 : p.2.2.1 ≤ (Sum.elim (fun (p : Int32 × cd_S × cd_B) => p.2.2) (fun (t : cd_S × cd_B) => t.2) q21).1 ∧ p.2.2.2 ≤ (Sum.elim (fun (p : Int32 × cd_S × cd_B) => p.2.2) (fun (t : cd_S × cd_B) => t.2) q21).2 := ⟨hm22, hn22⟩
    cases q21 with
    | inr t21 =>
      exact nomatch Option.some.inj h
    | inl p21 =>
      have hle21 := (kc_X4_room l D cA E sz ad _ hj oq sgq sgv hE n σ b t0 p21 e_q21).1
      have hM10022 : p.2.2.1 ≤ p21.2.2.1 ∧ p.2.2.2 ≤ p21.2.2.2 := hM22
      have h := cd_inl h
      refine hp_callVv (As := [.int t0]) (rest := []) cx hw ((kc_X4_room l D cA E _ ad _ hj oq sgq sgv hE n σ b t0 p21 e_q21).2) (cwV 1 cx.2.2.2.2.2.1 (cd_giV cm_691 cm_692 cm_693 cm_663 cm_694) rfl rfl rfl hdc_X4_room ⟨Nat.le_of_ble_eq_true rfl, Nat.le_of_ble_eq_true rfl⟩) (cd_atO hj (by decide) (by decide)) rfl rfl hl.1 rfl (Nat.le_of_ble_eq_true rfl) dX4_readModule_29 ⟨by (try dsimp only); omega, by (try dsimp only); omega⟩ (fun u H locs hp hw => ?_)
      obtain ⟨ca, hj, rfl⟩ := hp
      refine W.widen (k := b0.1 - p21.2.2.1) (n := b0.2 - p21.2.2.2) (by omega) (by omega) ?_
      refine lv_aload_n cx.1 cx.2.1 dX4_readModule_32 rfl (lv_at hl 0 rfl) ?_
      refine cd_gO (o2 := 2) (e2 := 0) (o := 4) (k := 1) (f := 129) hj cx hw hic4 rfl ⟨by decide, rfl, by decide, rfl⟩ rfl (by decide) ⟨rfl, rfl⟩ (List.mem_cons_of_mem _ cm_722) dX4_readModule_33 ?_
      refine lv_aload_n cx.1 cx.2.1 dX4_readModule_36 rfl (lv_at hl 0 rfl) ?_
      refine cd_gO (o2 := 10) (e2 := 0) (o := 4) (k := 0) (f := 128) hj cx hw hic4 rfl ⟨by decide, rfl, by decide, rfl⟩ rfl (by decide) ⟨rfl, rfl⟩ (List.mem_cons_of_mem _ cm_658) dX4_readModule_37 ?_
      refine cd_gJ (o := 10) (k := 10) (f := 330) hj cx hw hic10 rfl ⟨by decide, rfl, by decide, rfl⟩ rfl (by decide) (List.mem_cons_of_mem _ cm_695) dX4_readModule_40 ?_
      obtain ⟨p23, e_p23, h⟩ := md_ob h
      refine hp_callVi (As := [.long (cJ p21.2.1 330 0)]) (rest := []) cx hw (kc_X2_findModule l D cA E _ ad _ hj oq sgq sgv hE n p21.2.1 ((cJ p21.2.1 330 0)) p23 e_p23) (cwV 1 cx.2.2.2.2.2.1 (cd_giV cm_823 cm_824 cm_825 cm_167 cm_826) rfl rfl rfl hdc_X2_findModule ⟨Nat.le_of_ble_eq_true rfl, Nat.le_of_ble_eq_true rfl⟩) (cd_atO hj (by decide) (by decide)) rfl rfl hl.1 rfl (Nat.le_of_ble_eq_true rfl) dX4_readModule_43 ⟨by (try dsimp only); omega, by (try dsimp only); omega⟩ (fun r u H locs hp hw => ?_)
      obtain ⟨rfl, ca, hj, rfl⟩ := hp
      refine lv_iconst (v := (-1)) cx.1 cx.2.1 dX4_readModule_46 (by decide) ?_
      refine lv_icmp_eq (tgt := 62) cx.1 cx.2.1 dX4_readModule_47 (by decide) (fun c47 => ?_) (fun c47 => ?_)
      · have h := md_ip c47 h
        exact J62 _ hj p23.2 (p21.2.2) _ _ _ (by omega) (by omega) (by omega) (by omega) h hw (lv_sub hl [0] rfl)
      · have h := md_in c47 h
        refine lv_aload_n cx.1 cx.2.1 dX4_readModule_50 rfl (lv_at hl 0 rfl) ?_
        refine lv_iconst (v := 2) cx.1 cx.2.1 dX4_readModule_51 (by decide) ?_
        refine lv_aload_n cx.1 cx.2.1 dX4_readModule_52 rfl (lv_at hl 0 rfl) ?_
        refine cd_gO (o2 := 10) (e2 := 0) (o := 4) (k := 0) (f := 128) hj cx hw hic4 rfl ⟨by decide, rfl, by decide, rfl⟩ rfl (by decide) ⟨rfl, rfl⟩ (List.mem_cons_of_mem _ cm_658) dX4_readModule_53 ?_
        refine cd_gI (o := 10) (k := 9) (f := 329) hj cx hw hic10 rfl ⟨by decide, rfl, by decide, rfl⟩ rfl (by decide) (List.mem_cons_of_mem _ cm_659) dX4_readModule_56 ?_
        obtain ⟨q24, e_q24, h⟩ := md_ob h
        obtain ⟨hm25, hn25, h⟩ := cd_cks h
        have hM25 : p.2.2.1 ≤ (Sum.elim (fun (p : Int32 × cd_S × cd_B) => p.2.2) (fun (t : cd_S × cd_B) => t.2) q24).1 ∧ p.2.2.2 ≤ (Sum.elim (fun (p : Int32 × cd_S × cd_B) => p.2.2) (fun (t : cd_S × cd_B) => t.2) q24).2 := ⟨hm25, hn25⟩
        cases q24 with
        | inr t24 =>
          exact nomatch Option.some.inj h
        | inl p24 =>
          have hle24 := (kc_X4_refuse l D cA E sz ad _ hj oq sgq sgv hE n p23.2 (p21.2.2) (2 : Int32) ((cI p23.2 329 0)) p24 e_q24).1
          have hM10025 : p.2.2.1 ≤ p24.2.2.1 ∧ p.2.2.2 ≤ p24.2.2.2 := hM25
          have h := cd_inl h
          refine hp_callVv (As := [.int 2, .int (cI p23.2 329 0)]) (rest := []) cx hw ((kc_X4_refuse l D cA E _ ad _ hj oq sgq sgv hE n p23.2 (p21.2.2) (2 : Int32) ((cI p23.2 329 0)) p24 e_q24).2) (cwV 2 cx.2.2.2.2.2.1 (cd_giV cm_660 cm_661 cm_662 cm_663 cm_664) rfl rfl rfl hdc_X4_refuse ⟨Nat.le_of_ble_eq_true rfl, Nat.le_of_ble_eq_true rfl⟩) (cd_atO hj (by decide) (by decide)) rfl rfl hl.1 rfl (Nat.le_of_ble_eq_true rfl) dX4_readModule_59 ⟨by (try dsimp only); omega, by (try dsimp only); omega⟩ (fun u H locs hp hw => ?_)
          obtain ⟨ca, hj, rfl⟩ := hp
          refine W.widen (k := b0.1 - p24.2.2.1) (n := b0.2 - p24.2.2.2) (by omega) (by omega) ?_
          exact J62 _ hj p24.2.1 (p24.2.2) _ _ _ (by omega) (by omega) (by omega) (by omega) h hw (lv_sub hl [0] rfl)
  refine lv_aload_n cx.1 cx.2.1 dX4_readModule_0 rfl (lv_at hl 0 rfl) ?_
  refine cd_gO (o2 := 10) (e2 := 0) (o := 4) (k := 0) (f := 128) hj cx hw hic4 rfl ⟨by decide, rfl, by decide, rfl⟩ rfl (by decide) ⟨rfl, rfl⟩ (List.mem_cons_of_mem _ cm_658) dX4_readModule_1 ?_
  obtain ⟨p26, e_p26, h⟩ := md_ob h
  refine hp_callVv (As := []) (rest := []) cx hw (kc_X10_advance l D cA E _ ad _ hj oq sgq sgv hE n σ0  p26 e_p26) (cwV 0 cx.2.2.2.2.2.1 (cd_giV cm_670 cm_671 cm_672 cm_301 cm_673) rfl rfl rfl hdc_X10_advance ⟨Nat.le_of_ble_eq_true rfl, Nat.le_of_ble_eq_true rfl⟩) (cd_atO hj (by decide) (by decide)) rfl rfl hl.1 rfl (Nat.le_of_ble_eq_true rfl) dX4_readModule_4 ⟨by (try dsimp only); omega, by (try dsimp only); omega⟩ (fun u H locs hp hw => ?_)
  obtain ⟨ca, hj, rfl⟩ := hp
  refine lv_aload_n cx.1 cx.2.1 dX4_readModule_7 rfl (lv_at hl 0 rfl) ?_
  obtain ⟨q27, e_q27, h⟩ := md_ob h
  obtain ⟨hm28, hn28, h⟩ := cd_cks h
  have hM28 : p.2.2.1 ≤ (Sum.elim (fun (p : Int32 × cd_S × cd_B) => p.2.2) (fun (t : cd_S × cd_B) => t.2) q27).1 ∧ p.2.2.2 ≤ (Sum.elim (fun (p : Int32 × cd_S × cd_B) => p.2.2) (fun (t : cd_S × cd_B) => t.2) q27).2 := ⟨hm28, hn28⟩
  cases q27 with
  | inr t27 =>
    exact nomatch Option.some.inj h
  | inl p27 =>
    have hle27 := (kc_X4_needName l D cA E sz ad _ hj oq sgq sgv hE n p26.2 b0  p27 e_q27).1
    have hM10028 : p.2.2.1 ≤ p27.2.2.1 ∧ p.2.2.2 ≤ p27.2.2.2 := hM28
    have h := cd_inl h
    refine hp_callVv (As := []) (rest := []) cx hw ((kc_X4_needName l D cA E _ ad _ hj oq sgq sgv hE n p26.2 b0  p27 e_q27).2) (cwV 0 cx.2.2.2.2.2.1 (cd_giV cm_687 cm_688 cm_689 cm_663 cm_690) rfl rfl rfl hdc_X4_needName ⟨Nat.le_of_ble_eq_true rfl, Nat.le_of_ble_eq_true rfl⟩) (cd_atO hj (by decide) (by decide)) rfl rfl hl.1 rfl (Nat.le_of_ble_eq_true rfl) dX4_readModule_8 ⟨by (try dsimp only); omega, by (try dsimp only); omega⟩ (fun u H locs hp hw => ?_)
    obtain ⟨ca, hj, rfl⟩ := hp
    refine W.widen (k := b0.1 - p27.2.2.1) (n := b0.2 - p27.2.2.2) (by omega) (by omega) ?_
    refine lv_aload_n cx.1 cx.2.1 dX4_readModule_11 rfl (lv_at hl 0 rfl) ?_
    refine lv_aload_n cx.1 cx.2.1 dX4_readModule_12 rfl (lv_at hl 0 rfl) ?_
    refine cd_gO (o2 := 2) (e2 := 0) (o := 4) (k := 1) (f := 129) hj cx hw hic4 rfl ⟨by decide, rfl, by decide, rfl⟩ rfl (by decide) ⟨rfl, rfl⟩ (List.mem_cons_of_mem _ cm_722) dX4_readModule_13 ?_
    refine cd_gI (o := 2) (k := 10) (f := 74) hj cx hw hic2 rfl ⟨by decide, rfl, by decide, rfl⟩ rfl (by decide) (List.mem_cons_of_mem _ cm_733) dX4_readModule_16 ?_
    refine lv_bipush (v := 8) cx.1 cx.2.1 dX4_readModule_19 (by decide) ?_
    refine lv_icmp_ge (tgt := 28) cx.1 cx.2.1 dX4_readModule_21 (by decide) (fun c21 => ?_) (fun c21 => ?_)
    · have h := md_ip c21 h
      refine lv_iconst (v := 0) cx.1 cx.2.1 dX4_readModule_28 (by decide) ?_
      exact J29 _ hj p27.2.1 (p27.2.2) 0 _ _ _ (by omega) (by omega) (by omega) (by omega) h hw (lv_sub hl [0] rfl)
    · have h := md_in c21 h
      refine lv_iconst (v := 1) cx.1 cx.2.1 dX4_readModule_24 (by decide) ?_
      refine lv_goto (tgt := 29) cx.1 cx.2.1 dX4_readModule_25 (by decide) ?_
      exact J29 _ hj p27.2.1 (p27.2.2) 1 _ _ _ (by omega) (by omega) (by omega) (by omega) h hw (lv_sub hl [0] rfl)
set_option maxHeartbeats 4000000 in
set_option maxRecDepth 100000 in
theorem kc_X8_forget (l : Launch) (D : va_G) (cA : Nat → ClassId) (E : hp_N) (sz : Nat) (ad : Nat → Nat → Nat) (ca0 : Nat → Nat) (hj : cd_inj ad ca0) (oq sgq sgv : Nat) (hE : cd_E E oq sgq sgv) (n : Nat) (σ0 : cd_S) (p : (Int32 × cd_S)) (h : f_X8_forget n σ0 = some p) : Met l yX8_forget (Cond.code yX8_forget cX8_forget 1 none :: v_CLS) ({ frames := 0, cells := 0, slots := 0, locals := 0 }) (hp_Pc D vwCl (hp_Tl cA) E sz (cd_pic cA ad ca0 σ0) [.ref (ad 8 0)]) (hp_Qv D vwCl (hp_Tl cA) sz (cd_pic cA ad ca0 σ0) (fun u => ∃ ca1, cd_inj ad ca1 ∧ u = cd_pic cA ad ca1 p.2)) 0 0 (hp_A (cd_pic cA ad ca0 σ0) sz) := by
  refine hp_ofW (cc := cX8_forget) (maxL := 1) (ret := none) (by decide) rfl (Nat.le_of_ble_eq_true rfl) ?_
  intro pp ee ss mm bb mt cd ls cx hsz hw hl
  have hl : lv_has ls 1 [(0, .ref (ad 8 0))] := hl
  refine lv_aload_n cx.1 cx.2.1 dX8_forget_0 rfl (lv_at hl 0 rfl) ?_
  refine lv_iconst (v := 0) cx.1 cx.2.1 dX8_forget_1 (by decide) ?_
  obtain ⟨σ1, e_σ1, h⟩ := md_ob h
  refine cd_pZ (o := 8) (k := 4) (f := 260) hj cx hw hic8 rfl ⟨by decide, rfl, by decide, rfl⟩ tyX8_ok nmX8 rfl (by decide) rfl (List.mem_cons_of_mem _ cm_981) rfl (by decide) e_σ1 dX8_forget_2 (fun H locs hw => ?_)
  exact hp_vret cx hw ((cd_ret hj h).2) dX8_forget_5
set_option maxHeartbeats 4000000 in
set_option maxRecDepth 100000 in
theorem kc_X8_setNeeds (l : Launch) (D : va_G) (cA : Nat → ClassId) (E : hp_N) (sz : Nat) (ad : Nat → Nat → Nat) (ca0 : Nat → Nat) (hj : cd_inj ad ca0) (oq sgq sgv : Nat) (hE : cd_E E oq sgq sgv) (n : Nat) (σ0 : cd_S) (a1 : Int32) (p : (Int32 × cd_S)) (h : f_X8_setNeeds n σ0 a1 = some p) : Met l yX8_setNeeds (Cond.code yX8_setNeeds cX8_setNeeds 3 none :: v_CLS) ({ frames := 1, cells := 0, slots := 0, locals := 21 }) (hp_Pc D vwCl (hp_Tl cA) E sz (cd_pic cA ad ca0 σ0) [.ref (ad 8 0), .int a1]) (hp_Qv D vwCl (hp_Tl cA) sz (cd_pic cA ad ca0 σ0) (fun u => ∃ ca1, cd_inj ad ca1 ∧ u = cd_pic cA ad ca1 p.2)) 0 0 (hp_A (cd_pic cA ad ca0 σ0) sz) := by
  refine hp_ofW (cc := cX8_setNeeds) (maxL := 3) (ret := none) (by decide) rfl (Nat.le_of_ble_eq_true rfl) ?_
  intro pp ee ss mm bb mt cd ls cx hsz hw hl
  have hl : lv_has ls 3 [(0, .ref (ad 8 0)), (1, .int a1)] := hl
  refine lv_iconst (v := 0) cx.1 cx.2.1 dX8_setNeeds_0 (by decide) ?_
  refine lv_istore_n (lv' := [(2, .int 0), (0, .ref (ad 8 0)), (1, .int a1)]) cx.1 cx.2.1 dX8_setNeeds_1 rfl hl (by decide) rfl (fun ls hl => ?_)
  have L2 : ∀ (j : Nat) (ca : Nat → Nat) (hj : cd_inj ad ca) (σ : cd_S) (l1 : Int32) (l2 : Int32) (q : (cd_S × Int32)) (H : Heap) (locs : List Loc) (ls : Array Slot), f_X8_setNeeds_L2 n l1 j σ l2 = some q → hp_w D vwCl (hp_Tl cA) E (hp_A (cd_pic cA ad ca0 σ0) sz) ss H locs (cd_pic cA ad ca σ) → lv_has ls 3 [(0, .ref (ad 8 0)), (1, .int l1), (2, .int l2)] → (∀ (ca : Nat → Nat) (hj : cd_inj ad ca) (H : Heap) (locs : List Loc) (ls : Array Slot), hp_w D vwCl (hp_Tl cA) E (hp_A (cd_pic cA ad ca0 σ0) sz) ss H locs (cd_pic cA ad ca q.1) → lv_has ls 3 [] → W pp l ee ({ frames := 1, cells := 0, slots := 0, locals := 21 }) ss mm [.ref (ad 8 0), .int a1].toArray bb mt cd H locs 0 0 (MQ bb (hp_Qv D vwCl (hp_Tl cA) sz (cd_pic cA ad ca0 σ0) (fun u => ∃ ca1, cd_inj ad ca1 ∧ u = cd_pic cA ad ca1 p.2)) [.ref (ad 8 0), .int a1].toArray ss 0 0 (hp_A (cd_pic cA ad ca0 σ0) sz)) (F0 mm 51 ls [])) → W pp l ee ({ frames := 1, cells := 0, slots := 0, locals := 21 }) ss mm [.ref (ad 8 0), .int a1].toArray bb mt cd H locs 0 0 (MQ bb (hp_Qv D vwCl (hp_Tl cA) sz (cd_pic cA ad ca0 σ0) (fun u => ∃ ca1, cd_inj ad ca1 ∧ u = cd_pic cA ad ca1 p.2)) [.ref (ad 8 0), .int a1].toArray ss 0 0 (hp_A (cd_pic cA ad ca0 σ0) sz)) (F0 mm 2 ls []) := by
    intro j
    induction j with
    | zero => intro ca hj σ l1 l2 q H locs ls h; exact nomatch h
    | succ j ih =>
      intro ca hj σ l1 l2 q H locs ls h hw hl K
      unfold f_X8_setNeeds_L2 at h
      have J45 : ∀ (ca : Nat → Nat) (hj : cd_inj ad ca) (σ : cd_S) (l2 : Int32) (H : Heap) (locs : List Loc) (ls : Array Slot), f_X8_setNeeds_J45 n l1 (f_X8_setNeeds_L2 n l1 j) σ l2 = some q → hp_w D vwCl (hp_Tl cA) E (hp_A (cd_pic cA ad ca0 σ0) sz) ss H locs (cd_pic cA ad ca σ) → lv_has ls 3 [(0, .ref (ad 8 0)), (1, .int l1), (2, .int l2)] → W pp l ee ({ frames := 1, cells := 0, slots := 0, locals := 21 }) ss mm [.ref (ad 8 0), .int a1].toArray bb mt cd H locs 0 0 (MQ bb (hp_Qv D vwCl (hp_Tl cA) sz (cd_pic cA ad ca0 σ0) (fun u => ∃ ca1, cd_inj ad ca1 ∧ u = cd_pic cA ad ca1 p.2)) [.ref (ad 8 0), .int a1].toArray ss 0 0 (hp_A (cd_pic cA ad ca0 σ0) sz)) (F0 mm 45 ls []) := by
        intro ca hj σ l2 H locs ls h hw hl
        refine lv_iinc (v := (l2 + 1)) (lv' := [(2, .int (l2 + 1)), (0, .ref (ad 8 0)), (1, .int l1)]) cx.1 cx.2.1 dX8_setNeeds_45 hl (k := 2) rfl rfl (by decide) rfl (fun ls hl => ?_)
        refine lv_goto (tgt := 2) cx.1 cx.2.1 dX8_setNeeds_48 (by decide) ?_
        exact ih _ hj σ l1 ((l2 + 1)) q _ _ _ h hw (lv_sub hl [1, 2, 0] rfl) K
      refine lv_iload_n cx.1 cx.2.1 dX8_setNeeds_2 rfl (lv_at hl 2 rfl) ?_
      refine lv_aload_n cx.1 cx.2.1 dX8_setNeeds_3 rfl (lv_at hl 0 rfl) ?_
      refine cd_gO (o2 := 2) (e2 := 0) (o := 8) (k := 0) (f := 256) hj cx hw hic8 rfl ⟨by decide, rfl, by decide, rfl⟩ rfl (by decide) ⟨rfl, rfl⟩ (List.mem_cons_of_mem _ cm_982) dX8_setNeeds_4 ?_
      refine cd_gI (o := 2) (k := 2) (f := 66) hj cx hw hic2 rfl ⟨by decide, rfl, by decide, rfl⟩ rfl (by decide) (List.mem_cons_of_mem _ cm_983) dX8_setNeeds_7 ?_
      refine lv_icmp_ge (tgt := 51) cx.1 cx.2.1 dX8_setNeeds_10 (by decide) (fun c10 => ?_) (fun c10 => ?_)
      · have h := md_ip c10 h
        obtain rfl := Option.some.inj h
        exact K _ hj _ _ _ hw (lv_sub hl [] rfl)
      · have h := md_in c10 h
        refine lv_aload_n cx.1 cx.2.1 dX8_setNeeds_13 rfl (lv_at hl 0 rfl) ?_
        refine cd_gO (o2 := 2) (e2 := 0) (o := 8) (k := 0) (f := 256) hj cx hw hic8 rfl ⟨by decide, rfl, by decide, rfl⟩ rfl (by decide) ⟨rfl, rfl⟩ (List.mem_cons_of_mem _ cm_982) dX8_setNeeds_14 ?_
        refine lv_iload_n cx.1 cx.2.1 dX8_setNeeds_17 rfl (lv_at hl 2 rfl) ?_
        obtain ⟨p1, e_p1, h⟩ := md_ob h
        refine hp_callVr (As := [.int l2]) (rest := []) cx hw (kc_X2_unitAt l D cA E _ ad _ hj oq sgq sgv hE n σ l2 p1 e_p1) (cwV 1 cx.2.2.2.2.2.1 (cd_giV cm_984 cm_285 cm_286 cm_167 cm_287) rfl rfl rfl hdc_X2_unitAt ⟨Nat.le_of_ble_eq_true rfl, Nat.le_of_ble_eq_true rfl⟩) (cd_atO hj (by decide) (by decide)) rfl rfl hl.1 rfl (Nat.le_of_ble_eq_true rfl) dX8_setNeeds_18 ⟨Nat.le_refl _, Nat.le_refl _⟩ (fun r u H locs hp hw => ?_)
        obtain ⟨⟨hb_p1, rfl⟩, ca, hj, rfl⟩ := hp
        refine cd_gI (o := 9) (k := 9) (f := 297) hj cx hw hic9 rfl ⟨by decide, rfl, by decide, rfl⟩ rfl (show _ < 60 by omega) (List.mem_cons_of_mem _ cm_985) dX8_setNeeds_21 ?_
        refine lv_iload_n cx.1 cx.2.1 dX8_setNeeds_24 rfl (lv_at hl 1 rfl) ?_
        refine lv_icmp_ne (tgt := 45) cx.1 cx.2.1 dX8_setNeeds_25 (by decide) (fun c25 => ?_) (fun c25 => ?_)
        · have h := md_in c25 h
          exact J45 _ hj p1.2 l2 _ _ _ h hw (lv_sub hl [0, 1, 2] rfl)
        · have h := md_ip c25 h
          refine lv_aload_n cx.1 cx.2.1 dX8_setNeeds_28 rfl (lv_at hl 0 rfl) ?_
          refine cd_gO (o2 := 2) (e2 := 0) (o := 8) (k := 0) (f := 256) hj cx hw hic8 rfl ⟨by decide, rfl, by decide, rfl⟩ rfl (by decide) ⟨rfl, rfl⟩ (List.mem_cons_of_mem _ cm_982) dX8_setNeeds_29 ?_
          refine lv_iload_n cx.1 cx.2.1 dX8_setNeeds_32 rfl (lv_at hl 2 rfl) ?_
          obtain ⟨p2, e_p2, h⟩ := md_ob h
          refine hp_callVr (As := [.int l2]) (rest := []) cx hw (kc_X2_unitAt l D cA E _ ad _ hj oq sgq sgv hE n p1.2 l2 p2 e_p2) (cwV 1 cx.2.2.2.2.2.1 (cd_giV cm_984 cm_285 cm_286 cm_167 cm_287) rfl rfl rfl hdc_X2_unitAt ⟨Nat.le_of_ble_eq_true rfl, Nat.le_of_ble_eq_true rfl⟩) (cd_atO hj (by decide) (by decide)) rfl rfl hl.1 rfl (Nat.le_of_ble_eq_true rfl) dX8_setNeeds_33 ⟨Nat.le_refl _, Nat.le_refl _⟩ (fun r u H locs hp hw => ?_)
          obtain ⟨⟨hb_p2, rfl⟩, ca, hj, rfl⟩ := hp
          refine lv_iconst (v := 1) cx.1 cx.2.1 dX8_setNeeds_36 (by decide) ?_
          obtain ⟨σ3, e_σ3, h⟩ := md_ob h
          refine cd_pZ (o := 9) (k := 13) (f := 301) hj cx hw hic9 rfl ⟨by decide, rfl, by decide, rfl⟩ tyX9_ok nmX9 rfl (show _ < 60 by omega) rfl (List.mem_cons_of_mem _ cm_986) rfl (by decide) e_σ3 dX8_setNeeds_37 (fun H locs hw => ?_)
          refine lv_aload_n cx.1 cx.2.1 dX8_setNeeds_40 rfl (lv_at hl 0 rfl) ?_
          refine lv_iconst (v := 1) cx.1 cx.2.1 dX8_setNeeds_41 (by decide) ?_
          obtain ⟨σ4, e_σ4, h⟩ := md_ob h
          refine cd_pZ (o := 8) (k := 3) (f := 259) hj cx hw hic8 rfl ⟨by decide, rfl, by decide, rfl⟩ tyX8_ok nmX8 rfl (by decide) rfl (List.mem_cons_of_mem _ cm_987) rfl (by decide) e_σ4 dX8_setNeeds_42 (fun H locs hw => ?_)
          exact J45 _ hj σ4 l2 _ _ _ h hw (lv_sub hl [0, 1, 2] rfl)
  obtain ⟨q5, e_q5, h⟩ := md_ob h
  refine L2 n _ hj σ0 a1 0 q5 _ _ _ e_q5 hw (lv_sub hl [1, 2, 0] rfl) (fun ca hj H locs ls hw hl => ?_)
  exact hp_vret cx hw ((cd_ret hj h).2) dX8_setNeeds_51
set_option maxHeartbeats 4000000 in
set_option maxRecDepth 100000 in
theorem kc_X8_wantsContext (l : Launch) (D : va_G) (cA : Nat → ClassId) (E : hp_N) (sz : Nat) (ad : Nat → Nat → Nat) (ca0 : Nat → Nat) (hj : cd_inj ad ca0) (oq sgq sgv : Nat) (hE : cd_E E oq sgq sgv) (n : Nat) (σ0 : cd_S) (a1 : Nat) (hb_a1 : a1 < 60) (p : (Int32 × cd_S)) (h : f_X8_wantsContext n σ0 a1 = some p) : Met l yX8_wantsContext (Cond.code yX8_wantsContext cX8_wantsContext 4 (some .boolean) :: v_CLS) ({ frames := 3, cells := 0, slots := 0, locals := 73 }) (hp_Pc D vwCl (hp_Tl cA) E sz (cd_pic cA ad ca0 σ0) [.ref (ad 8 0), .ref (ad 9 a1)]) (hp_Qi D vwCl (hp_Tl cA) sz (cd_pic cA ad ca0 σ0) (fun r u => r = p.1 ∧ ∃ ca1, cd_inj ad ca1 ∧ u = cd_pic cA ad ca1 p.2)) 0 0 (hp_A (cd_pic cA ad ca0 σ0) sz) := by
  refine hp_ofW (cc := cX8_wantsContext) (maxL := 4) (ret := (some .boolean)) (by decide) rfl (Nat.le_of_ble_eq_true rfl) ?_
  intro pp ee ss mm bb mt cd ls cx hsz hw hl
  have hl : lv_has ls 4 [(0, .ref (ad 8 0)), (1, .ref (ad 9 a1))] := hl
  refine lv_iconst (v := 0) cx.1 cx.2.1 dX8_wantsContext_0 (by decide) ?_
  refine lv_istore_n (lv' := [(2, .int 0), (0, .ref (ad 8 0)), (1, .ref (ad 9 a1))]) cx.1 cx.2.1 dX8_wantsContext_1 rfl hl (by decide) rfl (fun ls hl => ?_)
  refine lv_iconst (v := 0) cx.1 cx.2.1 dX8_wantsContext_2 (by decide) ?_
  refine lv_istore_n (lv' := [(3, .int 0), (2, .int 0), (0, .ref (ad 8 0)), (1, .ref (ad 9 a1))]) cx.1 cx.2.1 dX8_wantsContext_3 rfl hl (by decide) rfl (fun ls hl => ?_)
  have L4 : ∀ (j : Nat) (ca : Nat → Nat) (hj : cd_inj ad ca) (σ : cd_S) (l2 : Int32) (l3 : Int32) (q : (cd_S × Int32 × Int32)) (H : Heap) (locs : List Loc) (ls : Array Slot), f_X8_wantsContext_L4 n a1 j σ l2 l3 = some q → hp_w D vwCl (hp_Tl cA) E (hp_A (cd_pic cA ad ca0 σ0) sz) ss H locs (cd_pic cA ad ca σ) → lv_has ls 4 [(0, .ref (ad 8 0)), (1, .ref (ad 9 a1)), (2, .int l2), (3, .int l3)] → (∀ (ca : Nat → Nat) (hj : cd_inj ad ca) (H : Heap) (locs : List Loc) (ls : Array Slot), hp_w D vwCl (hp_Tl cA) E (hp_A (cd_pic cA ad ca0 σ0) sz) ss H locs (cd_pic cA ad ca q.1) → lv_has ls 4 [(2, .int q.2.1)] → W pp l ee ({ frames := 3, cells := 0, slots := 0, locals := 73 }) ss mm [.ref (ad 8 0), .ref (ad 9 a1)].toArray bb mt cd H locs 0 0 (MQ bb (hp_Qi D vwCl (hp_Tl cA) sz (cd_pic cA ad ca0 σ0) (fun r u => r = p.1 ∧ ∃ ca1, cd_inj ad ca1 ∧ u = cd_pic cA ad ca1 p.2)) [.ref (ad 8 0), .ref (ad 9 a1)].toArray ss 0 0 (hp_A (cd_pic cA ad ca0 σ0) sz)) (F0 mm 45 ls [])) → W pp l ee ({ frames := 3, cells := 0, slots := 0, locals := 73 }) ss mm [.ref (ad 8 0), .ref (ad 9 a1)].toArray bb mt cd H locs 0 0 (MQ bb (hp_Qi D vwCl (hp_Tl cA) sz (cd_pic cA ad ca0 σ0) (fun r u => r = p.1 ∧ ∃ ca1, cd_inj ad ca1 ∧ u = cd_pic cA ad ca1 p.2)) [.ref (ad 8 0), .ref (ad 9 a1)].toArray ss 0 0 (hp_A (cd_pic cA ad ca0 σ0) sz)) (F0 mm 4 ls []) := by
    intro j
    induction j with
    | zero => intro ca hj σ l2 l3 q H locs ls h; exact nomatch h
    | succ j ih =>
      intro ca hj σ l2 l3 q H locs ls h hw hl K
      unfold f_X8_wantsContext_L4 at h
      refine lv_iload_n cx.1 cx.2.1 dX8_wantsContext_4 rfl (lv_at hl 2 rfl) ?_
      refine lv_if_ne (tgt := 45) cx.1 cx.2.1 dX8_wantsContext_5 (by decide) (fun c5 => ?_) (fun c5 => ?_)
      · have h := md_in c5 h
        obtain rfl := Option.some.inj h
        exact K _ hj _ _ _ hw (lv_sub hl [2] rfl)
      · have h := md_ip c5 h
        refine lv_iload_n cx.1 cx.2.1 dX8_wantsContext_8 rfl (lv_at hl 3 rfl) ?_
        refine lv_aload_n cx.1 cx.2.1 dX8_wantsContext_9 rfl (lv_at hl 1 rfl) ?_
        obtain ⟨p1, e_p1, h⟩ := md_ob h
        refine hp_callVi (As := []) (rest := [.int l3]) cx hw (kc_X9_length l D cA E _ ad _ hj oq sgq sgv hE n σ a1 (show _ < 60 by omega) p1 e_p1) (cwV 0 cx.2.2.2.2.2.1 (cd_giV cm_988 cm_620 cm_621 cm_114 cm_622) rfl rfl rfl hdc_X9_length ⟨Nat.le_of_ble_eq_true rfl, Nat.le_of_ble_eq_true rfl⟩) (cd_atO hj (by decide) (show _ < 60 by omega)) rfl rfl hl.1 rfl (Nat.le_of_ble_eq_true rfl) dX8_wantsContext_10 ⟨Nat.le_refl _, Nat.le_refl _⟩ (fun r u H locs hp hw => ?_)
        obtain ⟨rfl, ca, hj, rfl⟩ := hp
        refine lv_icmp_ge (tgt := 45) cx.1 cx.2.1 dX8_wantsContext_13 (by decide) (fun c13 => ?_) (fun c13 => ?_)
        · have h := md_ip c13 h
          obtain rfl := Option.some.inj h
          exact K _ hj _ _ _ hw (lv_sub hl [2] rfl)
        · have h := md_in c13 h
          refine lv_aload_n cx.1 cx.2.1 dX8_wantsContext_16 rfl (lv_at hl 0 rfl) ?_
          refine cd_gO (o2 := 2) (e2 := 0) (o := 8) (k := 0) (f := 256) hj cx hw hic8 rfl ⟨by decide, rfl, by decide, rfl⟩ rfl (by decide) ⟨rfl, rfl⟩ (List.mem_cons_of_mem _ cm_982) dX8_wantsContext_17 ?_
          refine lv_aload_n cx.1 cx.2.1 dX8_wantsContext_20 rfl (lv_at hl 1 rfl) ?_
          refine lv_iload_n cx.1 cx.2.1 dX8_wantsContext_21 rfl (lv_at hl 3 rfl) ?_
          obtain ⟨p2, e_p2, h⟩ := md_ob h
          refine hp_callVi (As := [.int l3]) (rest := [.ref (ad 2 0)]) cx hw (kc_X9_what l D cA E _ ad _ hj oq sgq sgv hE n p1.2 a1 l3 (show _ < 60 by omega) p2 e_p2) (cwV 1 cx.2.2.2.2.2.1 (cd_giV cm_989 cm_590 cm_591 cm_114 cm_592) rfl rfl rfl hdc_X9_what ⟨Nat.le_of_ble_eq_true rfl, Nat.le_of_ble_eq_true rfl⟩) (cd_atO hj (by decide) (show _ < 60 by omega)) rfl rfl hl.1 rfl (Nat.le_of_ble_eq_true rfl) dX8_wantsContext_22 ⟨Nat.le_refl _, Nat.le_refl _⟩ (fun r u H locs hp hw => ?_)
          obtain ⟨rfl, ca, hj, rfl⟩ := hp
          refine lv_aload_n cx.1 cx.2.1 dX8_wantsContext_25 rfl (lv_at hl 1 rfl) ?_
          refine lv_iload_n cx.1 cx.2.1 dX8_wantsContext_26 rfl (lv_at hl 3 rfl) ?_
          obtain ⟨p3, e_p3, h⟩ := md_ob h
          refine hp_callVi (As := [.int l3]) (rest := [.int p2.1, .ref (ad 2 0)]) cx hw (kc_X9_first l D cA E _ ad _ hj oq sgq sgv hE n p2.2 a1 l3 (show _ < 60 by omega) p3 e_p3) (cwV 1 cx.2.2.2.2.2.1 (cd_giV cm_990 cm_594 cm_595 cm_114 cm_596) rfl rfl rfl hdc_X9_first ⟨Nat.le_of_ble_eq_true rfl, Nat.le_of_ble_eq_true rfl⟩) (cd_atO hj (by decide) (show _ < 60 by omega)) rfl rfl hl.1 rfl (Nat.le_of_ble_eq_true rfl) dX8_wantsContext_27 ⟨Nat.le_refl _, Nat.le_refl _⟩ (fun r u H locs hp hw => ?_)
          obtain ⟨rfl, ca, hj, rfl⟩ := hp
          refine lv_aload_n cx.1 cx.2.1 dX8_wantsContext_30 rfl (lv_at hl 1 rfl) ?_
          refine lv_iload_n cx.1 cx.2.1 dX8_wantsContext_31 rfl (lv_at hl 3 rfl) ?_
          obtain ⟨p4, e_p4, h⟩ := md_ob h
          refine hp_callVi (As := [.int l3]) (rest := [.int p3.1, .int p2.1, .ref (ad 2 0)]) cx hw (kc_X9_second l D cA E _ ad _ hj oq sgq sgv hE n p3.2 a1 l3 (show _ < 60 by omega) p4 e_p4) (cwV 1 cx.2.2.2.2.2.1 (cd_giV cm_991 cm_599 cm_600 cm_114 cm_601) rfl rfl rfl hdc_X9_second ⟨Nat.le_of_ble_eq_true rfl, Nat.le_of_ble_eq_true rfl⟩) (cd_atO hj (by decide) (show _ < 60 by omega)) rfl rfl hl.1 rfl (Nat.le_of_ble_eq_true rfl) dX8_wantsContext_32 ⟨Nat.le_refl _, Nat.le_refl _⟩ (fun r u H locs hp hw => ?_)
          obtain ⟨rfl, ca, hj, rfl⟩ := hp
          obtain ⟨p5, e_p5, h⟩ := md_ob h
          refine hp_callVi (As := [.int p2.1, .int p3.1, .int p4.1]) (rest := []) cx hw (kc_X2_handsContext l D cA E _ ad _ hj oq sgq sgv hE n p4.2 (p2.1) (p3.1) (p4.1) p5 e_p5) (cwV 3 cx.2.2.2.2.2.1 (cd_giV cm_992 cm_603 cm_604 cm_167 cm_605) rfl rfl rfl hdc_X2_handsContext ⟨Nat.le_of_ble_eq_true rfl, Nat.le_of_ble_eq_true rfl⟩) (cd_atO hj (by decide) (by decide)) rfl rfl hl.1 rfl (Nat.le_of_ble_eq_true rfl) dX8_wantsContext_35 ⟨Nat.le_refl _, Nat.le_refl _⟩ (fun r u H locs hp hw => ?_)
          obtain ⟨rfl, ca, hj, rfl⟩ := hp
          refine lv_istore_n (lv' := [(2, .int p5.1), (0, .ref (ad 8 0)), (1, .ref (ad 9 a1)), (3, .int l3)]) cx.1 cx.2.1 dX8_wantsContext_38 rfl hl (by decide) rfl (fun ls hl => ?_)
          refine lv_iinc (v := (l3 + 1)) (lv' := [(3, .int (l3 + 1)), (2, .int p5.1), (0, .ref (ad 8 0)), (1, .ref (ad 9 a1))]) cx.1 cx.2.1 dX8_wantsContext_39 hl (k := 3) rfl rfl (by decide) rfl (fun ls hl => ?_)
          refine lv_goto (tgt := 4) cx.1 cx.2.1 dX8_wantsContext_42 (by decide) ?_
          exact ih _ hj p5.2 (p5.1) ((l3 + 1)) q _ _ _ h hw (lv_sub hl [2, 3, 1, 0] rfl) K
  obtain ⟨q6, e_q6, h⟩ := md_ob h
  refine L4 n _ hj σ0 0 0 q6 _ _ _ e_q6 hw (lv_sub hl [2, 3, 1, 0] rfl) (fun ca hj H locs ls hw hl => ?_)
  refine lv_iload_n cx.1 cx.2.1 dX8_wantsContext_45 rfl (lv_at hl 0 rfl) ?_
  obtain ⟨z7, e_z7, h⟩ := md_ob h
  rw [(md_zbs e_z7).1] at h
  exact hp_zret cx hw (cd_ret hj h) (md_nbn (md_zbs e_z7).2) dX8_wantsContext_46
set_option maxHeartbeats 4000000 in
set_option maxRecDepth 100000 in
theorem kc_X8_findNeeds (l : Launch) (D : va_G) (cA : Nat → ClassId) (E : hp_N) (sz : Nat) (ad : Nat → Nat → Nat) (ca0 : Nat → Nat) (hj : cd_inj ad ca0) (oq sgq sgv : Nat) (hE : cd_E E oq sgq sgv) (n : Nat) (σ0 : cd_S) (p : (Int32 × cd_S)) (h : f_X8_findNeeds n σ0 = some p) : Met l yX8_findNeeds (Cond.code yX8_findNeeds cX8_findNeeds 3 none :: v_CLS) ({ frames := 4, cells := 0, slots := 0, locals := 96 }) (hp_Pc D vwCl (hp_Tl cA) E sz (cd_pic cA ad ca0 σ0) [.ref (ad 8 0)]) (hp_Qv D vwCl (hp_Tl cA) sz (cd_pic cA ad ca0 σ0) (fun u => ∃ ca1, cd_inj ad ca1 ∧ u = cd_pic cA ad ca1 p.2)) 0 0 (hp_A (cd_pic cA ad ca0 σ0) sz) := by
  refine hp_ofW (cc := cX8_findNeeds) (maxL := 3) (ret := none) (by decide) rfl (Nat.le_of_ble_eq_true rfl) ?_
  intro pp ee ss mm bb mt cd ls cx hsz hw hl
  have hl : lv_has ls 3 [(0, .ref (ad 8 0))] := hl
  refine lv_aload_n cx.1 cx.2.1 dX8_findNeeds_0 rfl (lv_at hl 0 rfl) ?_
  refine lv_iconst (v := 1) cx.1 cx.2.1 dX8_findNeeds_1 (by decide) ?_
  obtain ⟨σ1, e_σ1, h⟩ := md_ob h
  refine cd_pZ (o := 8) (k := 3) (f := 259) hj cx hw hic8 rfl ⟨by decide, rfl, by decide, rfl⟩ tyX8_ok nmX8 rfl (by decide) rfl (List.mem_cons_of_mem _ cm_987) rfl (by decide) e_σ1 dX8_findNeeds_2 (fun H locs hw => ?_)
  refine lv_iconst (v := 0) cx.1 cx.2.1 dX8_findNeeds_5 (by decide) ?_
  refine lv_istore_n (lv' := [(1, .int 0), (0, .ref (ad 8 0))]) cx.1 cx.2.1 dX8_findNeeds_6 rfl hl (by decide) rfl (fun ls hl => ?_)
  have L7 : ∀ (j : Nat) (ca : Nat → Nat) (hj : cd_inj ad ca) (σ : cd_S) (l1 : Int32) (q : (cd_S × Int32)) (H : Heap) (locs : List Loc) (ls : Array Slot), f_X8_findNeeds_L7 n j σ l1 = some q → hp_w D vwCl (hp_Tl cA) E (hp_A (cd_pic cA ad ca0 σ0) sz) ss H locs (cd_pic cA ad ca σ) → lv_has ls 3 [(0, .ref (ad 8 0)), (1, .int l1)] → (∀ (ca : Nat → Nat) (hj : cd_inj ad ca) (H : Heap) (locs : List Loc) (ls : Array Slot), hp_w D vwCl (hp_Tl cA) E (hp_A (cd_pic cA ad ca0 σ0) sz) ss H locs (cd_pic cA ad ca q.1) → lv_has ls 3 [] → W pp l ee ({ frames := 4, cells := 0, slots := 0, locals := 96 }) ss mm [.ref (ad 8 0)].toArray bb mt cd H locs 0 0 (MQ bb (hp_Qv D vwCl (hp_Tl cA) sz (cd_pic cA ad ca0 σ0) (fun u => ∃ ca1, cd_inj ad ca1 ∧ u = cd_pic cA ad ca1 p.2)) [.ref (ad 8 0)].toArray ss 0 0 (hp_A (cd_pic cA ad ca0 σ0) sz)) (F0 mm 94 ls [])) → W pp l ee ({ frames := 4, cells := 0, slots := 0, locals := 96 }) ss mm [.ref (ad 8 0)].toArray bb mt cd H locs 0 0 (MQ bb (hp_Qv D vwCl (hp_Tl cA) sz (cd_pic cA ad ca0 σ0) (fun u => ∃ ca1, cd_inj ad ca1 ∧ u = cd_pic cA ad ca1 p.2)) [.ref (ad 8 0)].toArray ss 0 0 (hp_A (cd_pic cA ad ca0 σ0) sz)) (F0 mm 7 ls []) := by
    intro j
    induction j with
    | zero => intro ca hj σ l1 q H locs ls h; exact nomatch h
    | succ j ih =>
      intro ca hj σ l1 q H locs ls h hw hl K
      unfold f_X8_findNeeds_L7 at h
      refine lv_aload_n cx.1 cx.2.1 dX8_findNeeds_7 rfl (lv_at hl 0 rfl) ?_
      refine cd_gI (o := 8) (k := 3) (f := 259) hj cx hw hic8 rfl ⟨by decide, rfl, by decide, rfl⟩ rfl (by decide) (List.mem_cons_of_mem _ cm_987) dX8_findNeeds_8 ?_
      refine lv_if_eq (tgt := 94) cx.1 cx.2.1 dX8_findNeeds_11 (by decide) (fun c11 => ?_) (fun c11 => ?_)
      · have h := md_ip c11 h
        obtain rfl := Option.some.inj h
        exact K _ hj _ _ _ hw (lv_sub hl [] rfl)
      · have h := md_in c11 h
        refine lv_iload_n cx.1 cx.2.1 dX8_findNeeds_14 rfl (lv_at hl 1 rfl) ?_
        refine lv_bipush (v := 60) cx.1 cx.2.1 dX8_findNeeds_15 (by decide) ?_
        refine lv_icmp_gt (tgt := 94) cx.1 cx.2.1 dX8_findNeeds_17 (by decide) (fun c17 => ?_) (fun c17 => ?_)
        · have h := md_ip c17 h
          obtain rfl := Option.some.inj h
          exact K _ hj _ _ _ hw (lv_sub hl [] rfl)
        · have h := md_in c17 h
          refine lv_aload_n cx.1 cx.2.1 dX8_findNeeds_20 rfl (lv_at hl 0 rfl) ?_
          refine lv_iconst (v := 0) cx.1 cx.2.1 dX8_findNeeds_21 (by decide) ?_
          obtain ⟨σ2, e_σ2, h⟩ := md_ob h
          refine cd_pZ (o := 8) (k := 3) (f := 259) hj cx hw hic8 rfl ⟨by decide, rfl, by decide, rfl⟩ tyX8_ok nmX8 rfl (by decide) rfl (List.mem_cons_of_mem _ cm_987) rfl (by decide) e_σ2 dX8_findNeeds_22 (fun H locs hw => ?_)
          refine lv_iconst (v := 0) cx.1 cx.2.1 dX8_findNeeds_25 (by decide) ?_
          refine lv_istore_n (lv' := [(2, .int 0), (0, .ref (ad 8 0)), (1, .int l1)]) cx.1 cx.2.1 dX8_findNeeds_26 rfl hl (by decide) rfl (fun ls hl => ?_)
          have L27 : ∀ (j : Nat) (ca : Nat → Nat) (hj : cd_inj ad ca) (σ : cd_S) (l1 : Int32) (l2 : Int32) (q : (cd_S × Int32)) (H : Heap) (locs : List Loc) (ls : Array Slot), f_X8_findNeeds_L27 n l1 j σ l2 = some q → hp_w D vwCl (hp_Tl cA) E (hp_A (cd_pic cA ad ca0 σ0) sz) ss H locs (cd_pic cA ad ca σ) → lv_has ls 3 [(0, .ref (ad 8 0)), (1, .int l1), (2, .int l2)] → (∀ (ca : Nat → Nat) (hj : cd_inj ad ca) (H : Heap) (locs : List Loc) (ls : Array Slot), hp_w D vwCl (hp_Tl cA) E (hp_A (cd_pic cA ad ca0 σ0) sz) ss H locs (cd_pic cA ad ca q.1) → lv_has ls 3 [(0, .ref (ad 8 0)), (1, .int l1)] → W pp l ee ({ frames := 4, cells := 0, slots := 0, locals := 96 }) ss mm [.ref (ad 8 0)].toArray bb mt cd H locs 0 0 (MQ bb (hp_Qv D vwCl (hp_Tl cA) sz (cd_pic cA ad ca0 σ0) (fun u => ∃ ca1, cd_inj ad ca1 ∧ u = cd_pic cA ad ca1 p.2)) [.ref (ad 8 0)].toArray ss 0 0 (hp_A (cd_pic cA ad ca0 σ0) sz)) (F0 mm 88 ls [])) → W pp l ee ({ frames := 4, cells := 0, slots := 0, locals := 96 }) ss mm [.ref (ad 8 0)].toArray bb mt cd H locs 0 0 (MQ bb (hp_Qv D vwCl (hp_Tl cA) sz (cd_pic cA ad ca0 σ0) (fun u => ∃ ca1, cd_inj ad ca1 ∧ u = cd_pic cA ad ca1 p.2)) [.ref (ad 8 0)].toArray ss 0 0 (hp_A (cd_pic cA ad ca0 σ0) sz)) (F0 mm 27 ls []) := by
            intro j
            induction j with
            | zero => intro ca hj σ l1 l2 q H locs ls h; exact nomatch h
            | succ j ih =>
              intro ca hj σ l1 l2 q H locs ls h hw hl K
              unfold f_X8_findNeeds_L27 at h
              have J82 : ∀ (ca : Nat → Nat) (hj : cd_inj ad ca) (σ : cd_S) (l2 : Int32) (H : Heap) (locs : List Loc) (ls : Array Slot), f_X8_findNeeds_J82 n l1 (f_X8_findNeeds_L27 n l1 j) σ l2 = some q → hp_w D vwCl (hp_Tl cA) E (hp_A (cd_pic cA ad ca0 σ0) sz) ss H locs (cd_pic cA ad ca σ) → lv_has ls 3 [(0, .ref (ad 8 0)), (1, .int l1), (2, .int l2)] → W pp l ee ({ frames := 4, cells := 0, slots := 0, locals := 96 }) ss mm [.ref (ad 8 0)].toArray bb mt cd H locs 0 0 (MQ bb (hp_Qv D vwCl (hp_Tl cA) sz (cd_pic cA ad ca0 σ0) (fun u => ∃ ca1, cd_inj ad ca1 ∧ u = cd_pic cA ad ca1 p.2)) [.ref (ad 8 0)].toArray ss 0 0 (hp_A (cd_pic cA ad ca0 σ0) sz)) (F0 mm 82 ls []) := by
                intro ca hj σ l2 H locs ls h hw hl
                refine lv_iinc (v := (l2 + 1)) (lv' := [(2, .int (l2 + 1)), (0, .ref (ad 8 0)), (1, .int l1)]) cx.1 cx.2.1 dX8_findNeeds_82 hl (k := 2) rfl rfl (by decide) rfl (fun ls hl => ?_)
                refine lv_goto (tgt := 27) cx.1 cx.2.1 dX8_findNeeds_85 (by decide) ?_
                exact ih _ hj σ l1 ((l2 + 1)) q _ _ _ h hw (lv_sub hl [1, 2, 0] rfl) K
              refine lv_iload_n cx.1 cx.2.1 dX8_findNeeds_27 rfl (lv_at hl 2 rfl) ?_
              refine lv_aload_n cx.1 cx.2.1 dX8_findNeeds_28 rfl (lv_at hl 0 rfl) ?_
              refine cd_gO (o2 := 2) (e2 := 0) (o := 8) (k := 0) (f := 256) hj cx hw hic8 rfl ⟨by decide, rfl, by decide, rfl⟩ rfl (by decide) ⟨rfl, rfl⟩ (List.mem_cons_of_mem _ cm_982) dX8_findNeeds_29 ?_
              refine cd_gI (o := 2) (k := 2) (f := 66) hj cx hw hic2 rfl ⟨by decide, rfl, by decide, rfl⟩ rfl (by decide) (List.mem_cons_of_mem _ cm_983) dX8_findNeeds_32 ?_
              refine lv_icmp_ge (tgt := 88) cx.1 cx.2.1 dX8_findNeeds_35 (by decide) (fun c35 => ?_) (fun c35 => ?_)
              · have h := md_ip c35 h
                obtain rfl := Option.some.inj h
                exact K _ hj _ _ _ hw (lv_sub hl [0, 1] rfl)
              · have h := md_in c35 h
                refine lv_aload_n cx.1 cx.2.1 dX8_findNeeds_38 rfl (lv_at hl 0 rfl) ?_
                refine cd_gO (o2 := 2) (e2 := 0) (o := 8) (k := 0) (f := 256) hj cx hw hic8 rfl ⟨by decide, rfl, by decide, rfl⟩ rfl (by decide) ⟨rfl, rfl⟩ (List.mem_cons_of_mem _ cm_982) dX8_findNeeds_39 ?_
                refine lv_iload_n cx.1 cx.2.1 dX8_findNeeds_42 rfl (lv_at hl 2 rfl) ?_
                obtain ⟨p3, e_p3, h⟩ := md_ob h
                refine hp_callVr (As := [.int l2]) (rest := []) cx hw (kc_X2_unitAt l D cA E _ ad _ hj oq sgq sgv hE n σ l2 p3 e_p3) (cwV 1 cx.2.2.2.2.2.1 (cd_giV cm_984 cm_285 cm_286 cm_167 cm_287) rfl rfl rfl hdc_X2_unitAt ⟨Nat.le_of_ble_eq_true rfl, Nat.le_of_ble_eq_true rfl⟩) (cd_atO hj (by decide) (by decide)) rfl rfl hl.1 rfl (Nat.le_of_ble_eq_true rfl) dX8_findNeeds_43 ⟨Nat.le_refl _, Nat.le_refl _⟩ (fun r u H locs hp hw => ?_)
                obtain ⟨⟨hb_p3, rfl⟩, ca, hj, rfl⟩ := hp
                refine cd_gI (o := 9) (k := 13) (f := 301) hj cx hw hic9 rfl ⟨by decide, rfl, by decide, rfl⟩ rfl (show _ < 60 by omega) (List.mem_cons_of_mem _ cm_986) dX8_findNeeds_46 ?_
                refine lv_if_ne (tgt := 82) cx.1 cx.2.1 dX8_findNeeds_49 (by decide) (fun c49 => ?_) (fun c49 => ?_)
                · have h := md_in c49 h
                  exact J82 _ hj p3.2 l2 _ _ _ h hw (lv_sub hl [0, 1, 2] rfl)
                · have h := md_ip c49 h
                  refine lv_aload_n cx.1 cx.2.1 dX8_findNeeds_52 rfl (lv_at hl 0 rfl) ?_
                  refine lv_aload_n cx.1 cx.2.1 dX8_findNeeds_53 rfl (lv_at hl 0 rfl) ?_
                  refine cd_gO (o2 := 2) (e2 := 0) (o := 8) (k := 0) (f := 256) hj cx hw hic8 rfl ⟨by decide, rfl, by decide, rfl⟩ rfl (by decide) ⟨rfl, rfl⟩ (List.mem_cons_of_mem _ cm_982) dX8_findNeeds_54 ?_
                  refine lv_iload_n cx.1 cx.2.1 dX8_findNeeds_57 rfl (lv_at hl 2 rfl) ?_
                  obtain ⟨p4, e_p4, h⟩ := md_ob h
                  refine hp_callVr (As := [.int l2]) (rest := [.ref (ad 8 0)]) cx hw (kc_X2_unitAt l D cA E _ ad _ hj oq sgq sgv hE n p3.2 l2 p4 e_p4) (cwV 1 cx.2.2.2.2.2.1 (cd_giV cm_984 cm_285 cm_286 cm_167 cm_287) rfl rfl rfl hdc_X2_unitAt ⟨Nat.le_of_ble_eq_true rfl, Nat.le_of_ble_eq_true rfl⟩) (cd_atO hj (by decide) (by decide)) rfl rfl hl.1 rfl (Nat.le_of_ble_eq_true rfl) dX8_findNeeds_58 ⟨Nat.le_refl _, Nat.le_refl _⟩ (fun r u H locs hp hw => ?_)
                  obtain ⟨⟨hb_p4, rfl⟩, ca, hj, rfl⟩ := hp
                  obtain ⟨p5, e_p5, h⟩ := md_ob h
                  refine hp_callVi (As := [.ref (ad 9 p4.1)]) (rest := []) cx hw (kc_X8_wantsContext l D cA E _ ad _ hj oq sgq sgv hE n p4.2 (p4.1) (show _ < 60 by omega) p5 e_p5) (cwV 1 cx.2.2.2.2.2.1 (cd_giV cm_993 cm_994 cm_995 cm_996 cm_997) rfl rfl rfl hdc_X8_wantsContext ⟨Nat.le_of_ble_eq_true rfl, Nat.le_of_ble_eq_true rfl⟩) (cd_atO hj (by decide) (by decide)) rfl rfl hl.1 rfl (Nat.le_of_ble_eq_true rfl) dX8_findNeeds_61 ⟨Nat.le_refl _, Nat.le_refl _⟩ (fun r u H locs hp hw => ?_)
                  obtain ⟨rfl, ca, hj, rfl⟩ := hp
                  refine lv_if_eq (tgt := 82) cx.1 cx.2.1 dX8_findNeeds_64 (by decide) (fun c64 => ?_) (fun c64 => ?_)
                  · have h := md_ip c64 h
                    exact J82 _ hj p5.2 l2 _ _ _ h hw (lv_sub hl [0, 1, 2] rfl)
                  · have h := md_in c64 h
                    refine lv_aload_n cx.1 cx.2.1 dX8_findNeeds_67 rfl (lv_at hl 0 rfl) ?_
                    refine lv_aload_n cx.1 cx.2.1 dX8_findNeeds_68 rfl (lv_at hl 0 rfl) ?_
                    refine cd_gO (o2 := 2) (e2 := 0) (o := 8) (k := 0) (f := 256) hj cx hw hic8 rfl ⟨by decide, rfl, by decide, rfl⟩ rfl (by decide) ⟨rfl, rfl⟩ (List.mem_cons_of_mem _ cm_982) dX8_findNeeds_69 ?_
                    refine lv_iload_n cx.1 cx.2.1 dX8_findNeeds_72 rfl (lv_at hl 2 rfl) ?_
                    obtain ⟨p6, e_p6, h⟩ := md_ob h
                    refine hp_callVr (As := [.int l2]) (rest := [.ref (ad 8 0)]) cx hw (kc_X2_unitAt l D cA E _ ad _ hj oq sgq sgv hE n p5.2 l2 p6 e_p6) (cwV 1 cx.2.2.2.2.2.1 (cd_giV cm_984 cm_285 cm_286 cm_167 cm_287) rfl rfl rfl hdc_X2_unitAt ⟨Nat.le_of_ble_eq_true rfl, Nat.le_of_ble_eq_true rfl⟩) (cd_atO hj (by decide) (by decide)) rfl rfl hl.1 rfl (Nat.le_of_ble_eq_true rfl) dX8_findNeeds_73 ⟨Nat.le_refl _, Nat.le_refl _⟩ (fun r u H locs hp hw => ?_)
                    obtain ⟨⟨hb_p6, rfl⟩, ca, hj, rfl⟩ := hp
                    refine cd_gI (o := 9) (k := 9) (f := 297) hj cx hw hic9 rfl ⟨by decide, rfl, by decide, rfl⟩ rfl (show _ < 60 by omega) (List.mem_cons_of_mem _ cm_985) dX8_findNeeds_76 ?_
                    obtain ⟨p7, e_p7, h⟩ := md_ob h
                    refine hp_callVv (As := [.int (cI p6.2 297 (p6.1))]) (rest := []) cx hw (kc_X8_setNeeds l D cA E _ ad _ hj oq sgq sgv hE n p6.2 ((cI p6.2 297 (p6.1))) p7 e_p7) (cwV 1 cx.2.2.2.2.2.1 (cd_giV cm_998 cm_999 cm_1000 cm_996 cm_1001) rfl rfl rfl hdc_X8_setNeeds ⟨Nat.le_of_ble_eq_true rfl, Nat.le_of_ble_eq_true rfl⟩) (cd_atO hj (by decide) (by decide)) rfl rfl hl.1 rfl (Nat.le_of_ble_eq_true rfl) dX8_findNeeds_79 ⟨Nat.le_refl _, Nat.le_refl _⟩ (fun u H locs hp hw => ?_)
                    obtain ⟨ca, hj, rfl⟩ := hp
                    exact J82 _ hj p7.2 l2 _ _ _ h hw (lv_sub hl [0, 1, 2] rfl)
          obtain ⟨q8, e_q8, h⟩ := md_ob h
          refine L27 n _ hj σ2 l1 0 q8 _ _ _ e_q8 hw (lv_sub hl [1, 2, 0] rfl) (fun ca hj H locs ls hw hl => ?_)
          refine lv_iinc (v := (l1 + 1)) (lv' := [(1, .int (l1 + 1)), (0, .ref (ad 8 0))]) cx.1 cx.2.1 dX8_findNeeds_88 hl (k := 1) rfl rfl (by decide) rfl (fun ls hl => ?_)
          refine lv_goto (tgt := 7) cx.1 cx.2.1 dX8_findNeeds_91 (by decide) ?_
          exact ih _ hj q8.1 ((l1 + 1)) q _ _ _ h hw (lv_sub hl [1, 0] rfl) K
  obtain ⟨q9, e_q9, h⟩ := md_ob h
  refine L7 n _ hj σ1 0 q9 _ _ _ e_q9 hw (lv_sub hl [1, 0] rfl) (fun ca hj H locs ls hw hl => ?_)
  exact hp_vret cx hw ((cd_ret hj h).2) dX8_findNeeds_94
set_option maxHeartbeats 4000000 in
set_option maxRecDepth 100000 in
theorem kc_X8_mayOf (l : Launch) (D : va_G) (cA : Nat → ClassId) (E : hp_N) (sz : Nat) (ad : Nat → Nat → Nat) (ca0 : Nat → Nat) (hj : cd_inj ad ca0) (oq sgq sgv : Nat) (hE : cd_E E oq sgq sgv) (n : Nat) (σ0 : cd_S) (a1 : Int32) (p : (Int32 × cd_S)) (h : f_X8_mayOf n σ0 a1 = some p) : Met l yX8_mayOf (Cond.code yX8_mayOf cX8_mayOf 2 (some .int) :: v_CLS) ({ frames := 0, cells := 0, slots := 0, locals := 0 }) (hp_Pc D vwCl (hp_Tl cA) E sz (cd_pic cA ad ca0 σ0) [.ref (ad 8 0), .int a1]) (hp_Qi D vwCl (hp_Tl cA) sz (cd_pic cA ad ca0 σ0) (fun r u => r = p.1 ∧ ∃ ca1, cd_inj ad ca1 ∧ u = cd_pic cA ad ca1 p.2)) 0 0 (hp_A (cd_pic cA ad ca0 σ0) sz) := by
  refine hp_ofW (cc := cX8_mayOf) (maxL := 2) (ret := (some .int)) (by decide) rfl (Nat.le_of_ble_eq_true rfl) ?_
  intro pp ee ss mm bb mt cd ls cx hsz hw hl
  have hl : lv_has ls 2 [(0, .ref (ad 8 0)), (1, .int a1)] := hl
  refine lv_iload_n cx.1 cx.2.1 dX8_mayOf_0 rfl (lv_at hl 1 rfl) ?_
  refine lv_if_lt (tgt := 19) cx.1 cx.2.1 dX8_mayOf_1 (by decide) (fun c1 => ?_) (fun c1 => ?_)
  · have h := md_ip c1 h
    refine lv_iconst (v := 0) cx.1 cx.2.1 dX8_mayOf_19 (by decide) ?_
    exact hp_iret cx hw (cd_ret hj h) dX8_mayOf_20
  · have h := md_in c1 h
    refine lv_iload_n cx.1 cx.2.1 dX8_mayOf_4 rfl (lv_at hl 1 rfl) ?_
    refine lv_bipush (v := 60) cx.1 cx.2.1 dX8_mayOf_5 (by decide) ?_
    refine lv_icmp_ge (tgt := 19) cx.1 cx.2.1 dX8_mayOf_7 (by decide) (fun c7 => ?_) (fun c7 => ?_)
    · have h := md_ip c7 h
      refine lv_iconst (v := 0) cx.1 cx.2.1 dX8_mayOf_19 (by decide) ?_
      exact hp_iret cx hw (cd_ret hj h) dX8_mayOf_20
    · have h := md_in c7 h
      refine lv_aload_n cx.1 cx.2.1 dX8_mayOf_10 rfl (lv_at hl 0 rfl) ?_
      refine cd_gA (o := 8) (k := 1) (f := 257) hj cx hw hic8 rfl ⟨by decide, rfl, by decide, rfl⟩ rfl (by decide) (List.mem_cons_of_mem _ cm_1002) dX8_mayOf_11 ?_
      refine lv_iload_n cx.1 cx.2.1 dX8_mayOf_14 rfl (lv_at hl 1 rfl) ?_
      obtain ⟨v1, e_v1, h⟩ := md_ob h
      refine cd_lI (f := 257) hj cx hw (by decide) (by decide) rfl e_v1 dX8_mayOf_15 ?_
      refine lv_goto (tgt := 20) cx.1 cx.2.1 dX8_mayOf_16 (by decide) ?_
      exact hp_iret cx hw (cd_ret hj h) dX8_mayOf_20
set_option maxHeartbeats 4000000 in
set_option maxRecDepth 100000 in
theorem kc_X8_addMay (l : Launch) (D : va_G) (cA : Nat → ClassId) (E : hp_N) (sz : Nat) (ad : Nat → Nat → Nat) (ca0 : Nat → Nat) (hj : cd_inj ad ca0) (oq sgq sgv : Nat) (hE : cd_E E oq sgq sgv) (n : Nat) (σ0 : cd_S) (a1 : Nat) (a2 : Int32) (hb_a1 : a1 < 60) (p : (Int32 × cd_S)) (h : f_X8_addMay n σ0 a1 a2 = some p) : Met l yX8_addMay (Cond.code yX8_addMay cX8_addMay 4 none :: v_CLS) ({ frames := 0, cells := 0, slots := 0, locals := 0 }) (hp_Pc D vwCl (hp_Tl cA) E sz (cd_pic cA ad ca0 σ0) [.ref (ad 8 0), .ref (ad 9 a1), .int a2]) (hp_Qv D vwCl (hp_Tl cA) sz (cd_pic cA ad ca0 σ0) (fun u => ∃ ca1, cd_inj ad ca1 ∧ u = cd_pic cA ad ca1 p.2)) 0 0 (hp_A (cd_pic cA ad ca0 σ0) sz) := by
  refine hp_ofW (cc := cX8_addMay) (maxL := 4) (ret := none) (by decide) rfl (Nat.le_of_ble_eq_true rfl) ?_
  intro pp ee ss mm bb mt cd ls cx hsz hw hl
  have hl : lv_has ls 4 [(0, .ref (ad 8 0)), (1, .ref (ad 9 a1)), (2, .int a2)] := hl
  refine lv_aload_n cx.1 cx.2.1 dX8_addMay_0 rfl (lv_at hl 1 rfl) ?_
  refine cd_gI (o := 9) (k := 0) (f := 288) hj cx hw hic9 rfl ⟨by decide, rfl, by decide, rfl⟩ rfl (show _ < 60 by omega) (List.mem_cons_of_mem _ cm_1003) dX8_addMay_1 ?_
  refine lv_istore_n (lv' := [(3, .int (cI σ0 288 a1)), (0, .ref (ad 8 0)), (1, .ref (ad 9 a1)), (2, .int a2)]) cx.1 cx.2.1 dX8_addMay_4 rfl hl (by decide) rfl (fun ls hl => ?_)
  refine lv_iload_n cx.1 cx.2.1 dX8_addMay_5 rfl (lv_at hl 0 rfl) ?_
  refine lv_if_lt (tgt := 47) cx.1 cx.2.1 dX8_addMay_6 (by decide) (fun c6 => ?_) (fun c6 => ?_)
  · have h := md_ip c6 h
    exact hp_vret cx hw ((cd_ret hj h).2) dX8_addMay_47
  · have h := md_in c6 h
    refine lv_iload_n cx.1 cx.2.1 dX8_addMay_9 rfl (lv_at hl 0 rfl) ?_
    refine lv_bipush (v := 60) cx.1 cx.2.1 dX8_addMay_10 (by decide) ?_
    refine lv_icmp_ge (tgt := 47) cx.1 cx.2.1 dX8_addMay_12 (by decide) (fun c12 => ?_) (fun c12 => ?_)
    · have h := md_ip c12 h
      exact hp_vret cx hw ((cd_ret hj h).2) dX8_addMay_47
    · have h := md_in c12 h
      refine lv_aload_n cx.1 cx.2.1 dX8_addMay_15 rfl (lv_at hl 1 rfl) ?_
      refine cd_gA (o := 8) (k := 1) (f := 257) hj cx hw hic8 rfl ⟨by decide, rfl, by decide, rfl⟩ rfl (by decide) (List.mem_cons_of_mem _ cm_1002) dX8_addMay_16 ?_
      refine lv_iload_n cx.1 cx.2.1 dX8_addMay_19 rfl (lv_at hl 0 rfl) ?_
      obtain ⟨v1, e_v1, h⟩ := md_ob h
      refine cd_lI (f := 257) hj cx hw (by decide) (by decide) rfl e_v1 dX8_addMay_20 ?_
      refine lv_iload_n cx.1 cx.2.1 dX8_addMay_21 rfl (lv_at hl 3 rfl) ?_
      refine lv_ior cx.1 cx.2.1 dX8_addMay_22 ?_
      refine lv_aload_n cx.1 cx.2.1 dX8_addMay_23 rfl (lv_at hl 1 rfl) ?_
      refine cd_gA (o := 8) (k := 1) (f := 257) hj cx hw hic8 rfl ⟨by decide, rfl, by decide, rfl⟩ rfl (by decide) (List.mem_cons_of_mem _ cm_1002) dX8_addMay_24 ?_
      refine lv_iload_n cx.1 cx.2.1 dX8_addMay_27 rfl (lv_at hl 0 rfl) ?_
      obtain ⟨v2, e_v2, h⟩ := md_ob h
      refine cd_lI (f := 257) hj cx hw (by decide) (by decide) rfl e_v2 dX8_addMay_28 ?_
      refine lv_icmp_eq (tgt := 47) cx.1 cx.2.1 dX8_addMay_29 (by decide) (fun c29 => ?_) (fun c29 => ?_)
      · have h := md_ip c29 h
        exact hp_vret cx hw ((cd_ret hj h).2) dX8_addMay_47
      · have h := md_in c29 h
        refine lv_aload_n cx.1 cx.2.1 dX8_addMay_32 rfl (lv_at hl 1 rfl) ?_
        refine cd_gA (o := 8) (k := 1) (f := 257) hj cx hw hic8 rfl ⟨by decide, rfl, by decide, rfl⟩ rfl (by decide) (List.mem_cons_of_mem _ cm_1002) dX8_addMay_33 ?_
        refine lv_iload_n cx.1 cx.2.1 dX8_addMay_36 rfl (lv_at hl 0 rfl) ?_
        refine lv_dup2_11 cx.1 cx.2.1 dX8_addMay_37 rfl rfl ?_
        obtain ⟨v3, e_v3, h⟩ := md_ob h
        refine cd_lI (f := 257) hj cx hw (by decide) (by decide) rfl e_v3 dX8_addMay_38 ?_
        refine lv_iload_n cx.1 cx.2.1 dX8_addMay_39 rfl (lv_at hl 3 rfl) ?_
        refine lv_ior cx.1 cx.2.1 dX8_addMay_40 ?_
        obtain ⟨σ4, e_σ4, h⟩ := md_ob h
        refine cd_sI (f := 257) hj cx hw (by decide) (by decide) rfl e_σ4 dX8_addMay_41 (fun H locs hw => ?_)
        refine lv_aload_n cx.1 cx.2.1 dX8_addMay_42 rfl (lv_at hl 1 rfl) ?_
        refine lv_iconst (v := 1) cx.1 cx.2.1 dX8_addMay_43 (by decide) ?_
        obtain ⟨σ5, e_σ5, h⟩ := md_ob h
        refine cd_pZ (o := 8) (k := 3) (f := 259) hj cx hw hic8 rfl ⟨by decide, rfl, by decide, rfl⟩ tyX8_ok nmX8 rfl (by decide) rfl (List.mem_cons_of_mem _ cm_987) rfl (by decide) e_σ5 dX8_addMay_44 (fun H locs hw => ?_)
        exact hp_vret cx hw ((cd_ret hj h).2) dX8_addMay_47
set_option maxHeartbeats 4000000 in
set_option maxRecDepth 100000 in
theorem kc_X8_meetOf (l : Launch) (D : va_G) (cA : Nat → ClassId) (E : hp_N) (sz : Nat) (ad : Nat → Nat → Nat) (ca0 : Nat → Nat) (hj : cd_inj ad ca0) (oq sgq sgv : Nat) (hE : cd_E E oq sgq sgv) (n : Nat) (σ0 : cd_S) (a0 : Int32) (a1 : Nat) (a2 : Int32) (hb_a1 : a1 < 60) (p : (Int32 × cd_S)) (h : f_X8_meetOf n σ0 a0 a1 a2 = some p) : Met l yX8_meetOf (Cond.code yX8_meetOf cX8_meetOf 4 (some .int) :: v_CLS) ({ frames := 0, cells := 0, slots := 0, locals := 0 }) (hp_Pc D vwCl (hp_Tl cA) E sz (cd_pic cA ad ca0 σ0) [.int a0, .ref (ad 9 a1), .int a2]) (hp_Qi D vwCl (hp_Tl cA) sz (cd_pic cA ad ca0 σ0) (fun r u => r = p.1 ∧ ∃ ca1, cd_inj ad ca1 ∧ u = cd_pic cA ad ca1 p.2)) 0 0 (hp_A (cd_pic cA ad ca0 σ0) sz) := by
  refine hp_ofW (cc := cX8_meetOf) (maxL := 4) (ret := (some .int)) (by decide) rfl (Nat.le_of_ble_eq_true rfl) ?_
  intro pp ee ss mm bb mt cd ls cx hsz hw hl
  have hl : lv_has ls 4 [(0, .int a0), (1, .ref (ad 9 a1)), (2, .int a2)] := hl
  have J25 : ∀ (ca : Nat → Nat) (hj : cd_inj ad ca) (σ : cd_S) (l0 : Int32) (H : Heap) (locs : List Loc) (ls : Array Slot), f_X8_meetOf_J25 n a1 σ l0 = some p → hp_w D vwCl (hp_Tl cA) E (hp_A (cd_pic cA ad ca0 σ0) sz) ss H locs (cd_pic cA ad ca σ) → lv_has ls 4 [(0, .int l0)] → W pp l ee ({ frames := 0, cells := 0, slots := 0, locals := 0 }) ss mm [.int a0, .ref (ad 9 a1), .int a2].toArray bb mt cd H locs 0 0 (MQ bb (hp_Qi D vwCl (hp_Tl cA) sz (cd_pic cA ad ca0 σ0) (fun r u => r = p.1 ∧ ∃ ca1, cd_inj ad ca1 ∧ u = cd_pic cA ad ca1 p.2)) [.int a0, .ref (ad 9 a1), .int a2].toArray ss 0 0 (hp_A (cd_pic cA ad ca0 σ0) sz)) (F0 mm 25 ls []) := by
    intro ca hj σ l0 H locs ls h hw hl
    refine lv_iload_n cx.1 cx.2.1 dX8_meetOf_25 rfl (lv_at hl 0 rfl) ?_
    refine lv_goto (tgt := 30) cx.1 cx.2.1 dX8_meetOf_26 (by decide) ?_
    exact hp_iret cx hw (cd_ret hj h) dX8_meetOf_30
  have J16 : ∀ (ca : Nat → Nat) (hj : cd_inj ad ca) (σ : cd_S) (l0 : Int32) (t0 : Int32) (H : Heap) (locs : List Loc) (ls : Array Slot), f_X8_meetOf_J16 n a1 σ l0 t0 = some p → hp_w D vwCl (hp_Tl cA) E (hp_A (cd_pic cA ad ca0 σ0) sz) ss H locs (cd_pic cA ad ca σ) → lv_has ls 4 [(0, .int l0)] → W pp l ee ({ frames := 0, cells := 0, slots := 0, locals := 0 }) ss mm [.int a0, .ref (ad 9 a1), .int a2].toArray bb mt cd H locs 0 0 (MQ bb (hp_Qi D vwCl (hp_Tl cA) sz (cd_pic cA ad ca0 σ0) (fun r u => r = p.1 ∧ ∃ ca1, cd_inj ad ca1 ∧ u = cd_pic cA ad ca1 p.2)) [.int a0, .ref (ad 9 a1), .int a2].toArray ss 0 0 (hp_A (cd_pic cA ad ca0 σ0) sz)) (F0 mm 16 ls [.int t0]) := by
    intro ca hj σ l0 t0 H locs ls h hw hl
    refine lv_istore_n (lv' := [(3, .int t0), (0, .int l0)]) cx.1 cx.2.1 dX8_meetOf_16 rfl hl (by decide) rfl (fun ls hl => ?_)
    refine lv_iload_n cx.1 cx.2.1 dX8_meetOf_17 rfl (lv_at hl 0 rfl) ?_
    refine lv_if_ne (tgt := 25) cx.1 cx.2.1 dX8_meetOf_18 (by decide) (fun c18 => ?_) (fun c18 => ?_)
    · have h := md_in c18 h
      exact J25 _ hj σ l0 _ _ _ h hw (lv_sub hl [1] rfl)
    · have h := md_ip c18 h
      refine lv_iload_n cx.1 cx.2.1 dX8_meetOf_21 rfl (lv_at hl 1 rfl) ?_
      refine lv_if_ne (tgt := 29) cx.1 cx.2.1 dX8_meetOf_22 (by decide) (fun c22 => ?_) (fun c22 => ?_)
      · have h := md_in c22 h
        refine lv_iconst (v := 2) cx.1 cx.2.1 dX8_meetOf_29 (by decide) ?_
        exact hp_iret cx hw (cd_ret hj h) dX8_meetOf_30
      · have h := md_ip c22 h
        exact J25 _ hj σ l0 _ _ _ h hw (lv_sub hl [1] rfl)
  refine lv_iload_n cx.1 cx.2.1 dX8_meetOf_0 rfl (lv_at hl 2 rfl) ?_
  refine lv_aload_n cx.1 cx.2.1 dX8_meetOf_1 rfl (lv_at hl 1 rfl) ?_
  refine cd_gI (o := 9) (k := 3) (f := 291) hj cx hw hic9 rfl ⟨by decide, rfl, by decide, rfl⟩ rfl (show _ < 60 by omega) (List.mem_cons_of_mem _ cm_1004) dX8_meetOf_2 ?_
  refine lv_iushr (v := ((a2.toUInt32 >>> ((cI σ0 291 a1).toUInt32 &&& Int32.toUInt32 31)).toInt32)) cx.1 cx.2.1 dX8_meetOf_5 rfl ?_
  refine lv_iconst (v := 1) cx.1 cx.2.1 dX8_meetOf_6 (by decide) ?_
  refine lv_iand cx.1 cx.2.1 dX8_meetOf_7 ?_
  refine lv_if_eq (tgt := 15) cx.1 cx.2.1 dX8_meetOf_8 (by decide) (fun c8 => ?_) (fun c8 => ?_)
  · have h := md_ip c8 h
    refine lv_iconst (v := 0) cx.1 cx.2.1 dX8_meetOf_15 (by decide) ?_
    exact J16 _ hj σ0 a0 0 _ _ _ h hw (lv_sub hl [0] rfl)
  · have h := md_in c8 h
    refine lv_iconst (v := 1) cx.1 cx.2.1 dX8_meetOf_11 (by decide) ?_
    refine lv_goto (tgt := 16) cx.1 cx.2.1 dX8_meetOf_12 (by decide) ?_
    exact J16 _ hj σ0 a0 1 _ _ _ h hw (lv_sub hl [0] rfl)
set_option maxHeartbeats 4000000 in
set_option maxRecDepth 100000 in
theorem kc_X8_spreadGroup (l : Launch) (D : va_G) (cA : Nat → ClassId) (E : hp_N) (sz : Nat) (ad : Nat → Nat → Nat) (ca0 : Nat → Nat) (hj : cd_inj ad ca0) (oq sgq sgv : Nat) (hE : cd_E E oq sgq sgv) (n : Nat) (σ0 : cd_S) (a1 : Int32) (a2 : Int32) (a3 : Int32) (p : (Int32 × cd_S)) (h : f_X8_spreadGroup n σ0 a1 a2 a3 = some p) : Met l yX8_spreadGroup (Cond.code yX8_spreadGroup cX8_spreadGroup 5 none :: v_CLS) ({ frames := 1, cells := 0, slots := 0, locals := 23 }) (hp_Pc D vwCl (hp_Tl cA) E sz (cd_pic cA ad ca0 σ0) [.ref (ad 8 0), .int a1, .int a2, .int a3]) (hp_Qv D vwCl (hp_Tl cA) sz (cd_pic cA ad ca0 σ0) (fun u => ∃ ca1, cd_inj ad ca1 ∧ u = cd_pic cA ad ca1 p.2)) 0 0 (hp_A (cd_pic cA ad ca0 σ0) sz) := by
  refine hp_ofW (cc := cX8_spreadGroup) (maxL := 5) (ret := none) (by decide) rfl (Nat.le_of_ble_eq_true rfl) ?_
  intro pp ee ss mm bb mt cd ls cx hsz hw hl
  have hl : lv_has ls 5 [(0, .ref (ad 8 0)), (1, .int a1), (2, .int a2), (3, .int a3)] := hl
  refine lv_iconst (v := 0) cx.1 cx.2.1 dX8_spreadGroup_0 (by decide) ?_
  refine lv_istore (lv' := [(4, .int 0), (0, .ref (ad 8 0)), (1, .int a1), (2, .int a2), (3, .int a3)]) cx.1 cx.2.1 dX8_spreadGroup_1 hl (by decide) rfl (fun ls hl => ?_)
  have L3 : ∀ (j : Nat) (ca : Nat → Nat) (hj : cd_inj ad ca) (σ : cd_S) (l1 : Int32) (l2 : Int32) (l3 : Int32) (l4 : Int32) (q : (cd_S × Int32)) (H : Heap) (locs : List Loc) (ls : Array Slot), f_X8_spreadGroup_L3 n l1 l2 l3 j σ l4 = some q → hp_w D vwCl (hp_Tl cA) E (hp_A (cd_pic cA ad ca0 σ0) sz) ss H locs (cd_pic cA ad ca σ) → lv_has ls 5 [(0, .ref (ad 8 0)), (1, .int l1), (2, .int l2), (3, .int l3), (4, .int l4)] → (∀ (ca : Nat → Nat) (hj : cd_inj ad ca) (H : Heap) (locs : List Loc) (ls : Array Slot), hp_w D vwCl (hp_Tl cA) E (hp_A (cd_pic cA ad ca0 σ0) sz) ss H locs (cd_pic cA ad ca q.1) → lv_has ls 5 [] → W pp l ee ({ frames := 1, cells := 0, slots := 0, locals := 23 }) ss mm [.ref (ad 8 0), .int a1, .int a2, .int a3].toArray bb mt cd H locs 0 0 (MQ bb (hp_Qv D vwCl (hp_Tl cA) sz (cd_pic cA ad ca0 σ0) (fun u => ∃ ca1, cd_inj ad ca1 ∧ u = cd_pic cA ad ca1 p.2)) [.ref (ad 8 0), .int a1, .int a2, .int a3].toArray ss 0 0 (hp_A (cd_pic cA ad ca0 σ0) sz)) (F0 mm 69 ls [])) → W pp l ee ({ frames := 1, cells := 0, slots := 0, locals := 23 }) ss mm [.ref (ad 8 0), .int a1, .int a2, .int a3].toArray bb mt cd H locs 0 0 (MQ bb (hp_Qv D vwCl (hp_Tl cA) sz (cd_pic cA ad ca0 σ0) (fun u => ∃ ca1, cd_inj ad ca1 ∧ u = cd_pic cA ad ca1 p.2)) [.ref (ad 8 0), .int a1, .int a2, .int a3].toArray ss 0 0 (hp_A (cd_pic cA ad ca0 σ0) sz)) (F0 mm 3 ls []) := by
    intro j
    induction j with
    | zero => intro ca hj σ l1 l2 l3 l4 q H locs ls h; exact nomatch h
    | succ j ih =>
      intro ca hj σ l1 l2 l3 l4 q H locs ls h hw hl K
      unfold f_X8_spreadGroup_L3 at h
      have J63 : ∀ (ca : Nat → Nat) (hj : cd_inj ad ca) (σ : cd_S) (l4 : Int32) (H : Heap) (locs : List Loc) (ls : Array Slot), f_X8_spreadGroup_J63 n l1 l2 l3 (f_X8_spreadGroup_L3 n l1 l2 l3 j) σ l4 = some q → hp_w D vwCl (hp_Tl cA) E (hp_A (cd_pic cA ad ca0 σ0) sz) ss H locs (cd_pic cA ad ca σ) → lv_has ls 5 [(0, .ref (ad 8 0)), (1, .int l1), (2, .int l2), (3, .int l3), (4, .int l4)] → W pp l ee ({ frames := 1, cells := 0, slots := 0, locals := 23 }) ss mm [.ref (ad 8 0), .int a1, .int a2, .int a3].toArray bb mt cd H locs 0 0 (MQ bb (hp_Qv D vwCl (hp_Tl cA) sz (cd_pic cA ad ca0 σ0) (fun u => ∃ ca1, cd_inj ad ca1 ∧ u = cd_pic cA ad ca1 p.2)) [.ref (ad 8 0), .int a1, .int a2, .int a3].toArray ss 0 0 (hp_A (cd_pic cA ad ca0 σ0) sz)) (F0 mm 63 ls []) := by
        intro ca hj σ l4 H locs ls h hw hl
        refine lv_iinc (v := (l4 + 1)) (lv' := [(4, .int (l4 + 1)), (0, .ref (ad 8 0)), (1, .int l1), (2, .int l2), (3, .int l3)]) cx.1 cx.2.1 dX8_spreadGroup_63 hl (k := 4) rfl rfl (by decide) rfl (fun ls hl => ?_)
        refine lv_goto (tgt := 3) cx.1 cx.2.1 dX8_spreadGroup_66 (by decide) ?_
        exact ih _ hj σ l1 l2 l3 ((l4 + 1)) q _ _ _ h hw (lv_sub hl [1, 2, 3, 4, 0] rfl) K
      refine lv_iload_n cx.1 cx.2.1 dX8_spreadGroup_3 rfl (lv_at hl 1 rfl) ?_
      refine lv_iconst (v := (-1)) cx.1 cx.2.1 dX8_spreadGroup_4 (by decide) ?_
      refine lv_icmp_eq (tgt := 69) cx.1 cx.2.1 dX8_spreadGroup_5 (by decide) (fun c5 => ?_) (fun c5 => ?_)
      · have h := md_ip c5 h
        obtain rfl := Option.some.inj h
        exact K _ hj _ _ _ hw (lv_sub hl [] rfl)
      · have h := md_in c5 h
        refine lv_iload cx.1 cx.2.1 dX8_spreadGroup_8 (lv_at hl 4 rfl) ?_
        refine lv_aload_n cx.1 cx.2.1 dX8_spreadGroup_10 rfl (lv_at hl 0 rfl) ?_
        refine cd_gO (o2 := 2) (e2 := 0) (o := 8) (k := 0) (f := 256) hj cx hw hic8 rfl ⟨by decide, rfl, by decide, rfl⟩ rfl (by decide) ⟨rfl, rfl⟩ (List.mem_cons_of_mem _ cm_982) dX8_spreadGroup_11 ?_
        refine cd_gI (o := 2) (k := 2) (f := 66) hj cx hw hic2 rfl ⟨by decide, rfl, by decide, rfl⟩ rfl (by decide) (List.mem_cons_of_mem _ cm_983) dX8_spreadGroup_14 ?_
        refine lv_icmp_ge (tgt := 69) cx.1 cx.2.1 dX8_spreadGroup_17 (by decide) (fun c17 => ?_) (fun c17 => ?_)
        · have h := md_ip c17 h
          obtain rfl := Option.some.inj h
          exact K _ hj _ _ _ hw (lv_sub hl [] rfl)
        · have h := md_in c17 h
          refine lv_aload_n cx.1 cx.2.1 dX8_spreadGroup_20 rfl (lv_at hl 0 rfl) ?_
          refine cd_gO (o2 := 2) (e2 := 0) (o := 8) (k := 0) (f := 256) hj cx hw hic8 rfl ⟨by decide, rfl, by decide, rfl⟩ rfl (by decide) ⟨rfl, rfl⟩ (List.mem_cons_of_mem _ cm_982) dX8_spreadGroup_21 ?_
          refine lv_iload cx.1 cx.2.1 dX8_spreadGroup_24 (lv_at hl 4 rfl) ?_
          obtain ⟨p1, e_p1, h⟩ := md_ob h
          refine hp_callVr (As := [.int l4]) (rest := []) cx hw (kc_X2_unitAt l D cA E _ ad _ hj oq sgq sgv hE n σ l4 p1 e_p1) (cwV 1 cx.2.2.2.2.2.1 (cd_giV cm_984 cm_285 cm_286 cm_167 cm_287) rfl rfl rfl hdc_X2_unitAt ⟨Nat.le_of_ble_eq_true rfl, Nat.le_of_ble_eq_true rfl⟩) (cd_atO hj (by decide) (by decide)) rfl rfl hl.1 rfl (Nat.le_of_ble_eq_true rfl) dX8_spreadGroup_26 ⟨Nat.le_refl _, Nat.le_refl _⟩ (fun r u H locs hp hw => ?_)
          obtain ⟨⟨hb_p1, rfl⟩, ca, hj, rfl⟩ := hp
          refine cd_gI (o := 9) (k := 9) (f := 297) hj cx hw hic9 rfl ⟨by decide, rfl, by decide, rfl⟩ rfl (show _ < 60 by omega) (List.mem_cons_of_mem _ cm_985) dX8_spreadGroup_29 ?_
          refine lv_iload_n cx.1 cx.2.1 dX8_spreadGroup_32 rfl (lv_at hl 1 rfl) ?_
          refine lv_icmp_ne (tgt := 63) cx.1 cx.2.1 dX8_spreadGroup_33 (by decide) (fun c33 => ?_) (fun c33 => ?_)
          · have h := md_in c33 h
            exact J63 _ hj p1.2 l4 _ _ _ h hw (lv_sub hl [0, 1, 2, 3, 4] rfl)
          · have h := md_ip c33 h
            refine lv_aload_n cx.1 cx.2.1 dX8_spreadGroup_36 rfl (lv_at hl 0 rfl) ?_
            refine lv_aload_n cx.1 cx.2.1 dX8_spreadGroup_37 rfl (lv_at hl 0 rfl) ?_
            refine cd_gO (o2 := 2) (e2 := 0) (o := 8) (k := 0) (f := 256) hj cx hw hic8 rfl ⟨by decide, rfl, by decide, rfl⟩ rfl (by decide) ⟨rfl, rfl⟩ (List.mem_cons_of_mem _ cm_982) dX8_spreadGroup_38 ?_
            refine lv_iload cx.1 cx.2.1 dX8_spreadGroup_41 (lv_at hl 4 rfl) ?_
            obtain ⟨p2, e_p2, h⟩ := md_ob h
            refine hp_callVr (As := [.int l4]) (rest := [.ref (ad 8 0)]) cx hw (kc_X2_unitAt l D cA E _ ad _ hj oq sgq sgv hE n p1.2 l4 p2 e_p2) (cwV 1 cx.2.2.2.2.2.1 (cd_giV cm_984 cm_285 cm_286 cm_167 cm_287) rfl rfl rfl hdc_X2_unitAt ⟨Nat.le_of_ble_eq_true rfl, Nat.le_of_ble_eq_true rfl⟩) (cd_atO hj (by decide) (by decide)) rfl rfl hl.1 rfl (Nat.le_of_ble_eq_true rfl) dX8_spreadGroup_43 ⟨Nat.le_refl _, Nat.le_refl _⟩ (fun r u H locs hp hw => ?_)
            obtain ⟨⟨hb_p2, rfl⟩, ca, hj, rfl⟩ := hp
            refine lv_iload_n cx.1 cx.2.1 dX8_spreadGroup_46 rfl (lv_at hl 2 rfl) ?_
            refine lv_aload_n cx.1 cx.2.1 dX8_spreadGroup_47 rfl (lv_at hl 0 rfl) ?_
            refine cd_gO (o2 := 2) (e2 := 0) (o := 8) (k := 0) (f := 256) hj cx hw hic8 rfl ⟨by decide, rfl, by decide, rfl⟩ rfl (by decide) ⟨rfl, rfl⟩ (List.mem_cons_of_mem _ cm_982) dX8_spreadGroup_48 ?_
            refine lv_iload cx.1 cx.2.1 dX8_spreadGroup_51 (lv_at hl 4 rfl) ?_
            obtain ⟨p3, e_p3, h⟩ := md_ob h
            refine hp_callVr (As := [.int l4]) (rest := [.int l2, .ref (ad 9 p2.1), .ref (ad 8 0)]) cx hw (kc_X2_unitAt l D cA E _ ad _ hj oq sgq sgv hE n p2.2 l4 p3 e_p3) (cwV 1 cx.2.2.2.2.2.1 (cd_giV cm_984 cm_285 cm_286 cm_167 cm_287) rfl rfl rfl hdc_X2_unitAt ⟨Nat.le_of_ble_eq_true rfl, Nat.le_of_ble_eq_true rfl⟩) (cd_atO hj (by decide) (by decide)) rfl rfl hl.1 rfl (Nat.le_of_ble_eq_true rfl) dX8_spreadGroup_53 ⟨Nat.le_refl _, Nat.le_refl _⟩ (fun r u H locs hp hw => ?_)
            obtain ⟨⟨hb_p3, rfl⟩, ca, hj, rfl⟩ := hp
            refine lv_iload_n cx.1 cx.2.1 dX8_spreadGroup_56 rfl (lv_at hl 3 rfl) ?_
            obtain ⟨p4, e_p4, h⟩ := md_ob h
            refine hp_callSi (As := [.int l2, .ref (ad 9 p3.1), .int l3]) (rest := [.ref (ad 9 p2.1), .ref (ad 8 0)]) cx hw (kc_X8_meetOf l D cA E _ ad _ hj oq sgq sgv hE n p3.2 l2 (p3.1) l3 (show _ < 60 by omega) p4 e_p4) (cwS 3 cx.2.2.2.2.2.1 (cd_giS cm_1005 cm_1006 cm_996 cm_1007) rfl rfl rfl hdc_X8_meetOf ⟨Nat.le_of_ble_eq_true rfl, Nat.le_of_ble_eq_true rfl⟩) rfl hl.1 rfl (Nat.le_of_ble_eq_true rfl) dX8_spreadGroup_57 ⟨Nat.le_refl _, Nat.le_refl _⟩ (fun r u H locs hp hw => ?_)
            obtain ⟨rfl, ca, hj, rfl⟩ := hp
            obtain ⟨p5, e_p5, h⟩ := md_ob h
            refine hp_callVv (As := [.ref (ad 9 p2.1), .int p4.1]) (rest := []) cx hw (kc_X8_addMay l D cA E _ ad _ hj oq sgq sgv hE n p4.2 (p2.1) (p4.1) (show _ < 60 by omega) p5 e_p5) (cwV 2 cx.2.2.2.2.2.1 (cd_giV cm_1008 cm_1009 cm_1010 cm_996 cm_1011) rfl rfl rfl hdc_X8_addMay ⟨Nat.le_of_ble_eq_true rfl, Nat.le_of_ble_eq_true rfl⟩) (cd_atO hj (by decide) (by decide)) rfl rfl hl.1 rfl (Nat.le_of_ble_eq_true rfl) dX8_spreadGroup_60 ⟨Nat.le_refl _, Nat.le_refl _⟩ (fun u H locs hp hw => ?_)
            obtain ⟨ca, hj, rfl⟩ := hp
            exact J63 _ hj p5.2 l4 _ _ _ h hw (lv_sub hl [0, 1, 2, 3, 4] rfl)
  obtain ⟨q6, e_q6, h⟩ := md_ob h
  refine L3 n _ hj σ0 a1 a2 a3 0 q6 _ _ _ e_q6 hw (lv_sub hl [1, 2, 3, 4, 0] rfl) (fun ca hj H locs ls hw hl => ?_)
  exact hp_vret cx hw ((cd_ret hj h).2) dX8_spreadGroup_69
set_option maxHeartbeats 4000000 in
set_option maxRecDepth 100000 in
theorem kc_X8_spreadPart (l : Launch) (D : va_G) (cA : Nat → ClassId) (E : hp_N) (sz : Nat) (ad : Nat → Nat → Nat) (ca0 : Nat → Nat) (hj : cd_inj ad ca0) (oq sgq sgv : Nat) (hE : cd_E E oq sgq sgv) (n : Nat) (σ0 : cd_S) (a1 : Nat) (a2 : Int32) (a3 : Int32) (hb_a1 : a1 < 60) (p : (Int32 × cd_S)) (h : f_X8_spreadPart n σ0 a1 a2 a3 = some p) : Met l yX8_spreadPart (Cond.code yX8_spreadPart cX8_spreadPart 5 none :: v_CLS) ({ frames := 1, cells := 0, slots := 0, locals := 23 }) (hp_Pc D vwCl (hp_Tl cA) E sz (cd_pic cA ad ca0 σ0) [.ref (ad 8 0), .ref (ad 9 a1), .int a2, .int a3]) (hp_Qv D vwCl (hp_Tl cA) sz (cd_pic cA ad ca0 σ0) (fun u => ∃ ca1, cd_inj ad ca1 ∧ u = cd_pic cA ad ca1 p.2)) 0 0 (hp_A (cd_pic cA ad ca0 σ0) sz) := by
  refine hp_ofW (cc := cX8_spreadPart) (maxL := 5) (ret := none) (by decide) rfl (Nat.le_of_ble_eq_true rfl) ?_
  intro pp ee ss mm bb mt cd ls cx hsz hw hl
  have hl : lv_has ls 5 [(0, .ref (ad 8 0)), (1, .ref (ad 9 a1)), (2, .int a2), (3, .int a3)] := hl
  have J63 : ∀ (ca : Nat → Nat) (hj : cd_inj ad ca) (σ : cd_S) (l3 : Int32) (t0 : Int32) (H : Heap) (locs : List Loc) (ls : Array Slot), f_X8_spreadPart_J63 n a1 σ l3 t0 = some p → hp_w D vwCl (hp_Tl cA) E (hp_A (cd_pic cA ad ca0 σ0) sz) ss H locs (cd_pic cA ad ca σ) → lv_has ls 5 [(1, .ref (ad 9 a1)), (3, .int l3)] → W pp l ee ({ frames := 1, cells := 0, slots := 0, locals := 23 }) ss mm [.ref (ad 8 0), .ref (ad 9 a1), .int a2, .int a3].toArray bb mt cd H locs 0 0 (MQ bb (hp_Qv D vwCl (hp_Tl cA) sz (cd_pic cA ad ca0 σ0) (fun u => ∃ ca1, cd_inj ad ca1 ∧ u = cd_pic cA ad ca1 p.2)) [.ref (ad 8 0), .ref (ad 9 a1), .int a2, .int a3].toArray ss 0 0 (hp_A (cd_pic cA ad ca0 σ0) sz)) (F0 mm 63 ls [.int t0, .ref (ad 9 a1), .ref (ad 8 0)]) := by
    intro ca hj σ l3 t0 H locs ls h hw hl
    refine lv_aload_n cx.1 cx.2.1 dX8_spreadPart_63 rfl (lv_at hl 0 rfl) ?_
    refine lv_iload_n cx.1 cx.2.1 dX8_spreadPart_64 rfl (lv_at hl 1 rfl) ?_
    obtain ⟨p1, e_p1, h⟩ := md_ob h
    refine hp_callSi (As := [.int t0, .ref (ad 9 a1), .int l3]) (rest := [.ref (ad 9 a1), .ref (ad 8 0)]) cx hw (kc_X8_meetOf l D cA E _ ad _ hj oq sgq sgv hE n σ t0 a1 l3 (show _ < 60 by omega) p1 e_p1) (cwS 3 cx.2.2.2.2.2.1 (cd_giS cm_1005 cm_1006 cm_996 cm_1007) rfl rfl rfl hdc_X8_meetOf ⟨Nat.le_of_ble_eq_true rfl, Nat.le_of_ble_eq_true rfl⟩) rfl hl.1 rfl (Nat.le_of_ble_eq_true rfl) dX8_spreadPart_65 ⟨Nat.le_refl _, Nat.le_refl _⟩ (fun r u H locs hp hw => ?_)
    obtain ⟨rfl, ca, hj, rfl⟩ := hp
    obtain ⟨p2, e_p2, h⟩ := md_ob h
    refine hp_callVv (As := [.ref (ad 9 a1), .int p1.1]) (rest := []) cx hw (kc_X8_addMay l D cA E _ ad _ hj oq sgq sgv hE n p1.2 a1 (p1.1) (show _ < 60 by omega) p2 e_p2) (cwV 2 cx.2.2.2.2.2.1 (cd_giV cm_1008 cm_1009 cm_1010 cm_996 cm_1011) rfl rfl rfl hdc_X8_addMay ⟨Nat.le_of_ble_eq_true rfl, Nat.le_of_ble_eq_true rfl⟩) (cd_atO hj (by decide) (by decide)) rfl rfl hl.1 rfl (Nat.le_of_ble_eq_true rfl) dX8_spreadPart_68 ⟨Nat.le_refl _, Nat.le_refl _⟩ (fun u H locs hp hw => ?_)
    obtain ⟨ca, hj, rfl⟩ := hp
    refine lv_goto (tgt := 88) cx.1 cx.2.1 dX8_spreadPart_71 (by decide) ?_
    exact hp_vret cx hw ((cd_ret hj h).2) dX8_spreadPart_88
  have J49 : ∀ (ca : Nat → Nat) (hj : cd_inj ad ca) (σ : cd_S) (l2 : Int32) (l3 : Int32) (t0 : Int32) (H : Heap) (locs : List Loc) (ls : Array Slot), f_X8_spreadPart_J49 n a1 σ l2 l3 t0 = some p → hp_w D vwCl (hp_Tl cA) E (hp_A (cd_pic cA ad ca0 σ0) sz) ss H locs (cd_pic cA ad ca σ) → lv_has ls 5 [(0, .ref (ad 8 0)), (1, .ref (ad 9 a1)), (2, .int l2), (3, .int l3)] → W pp l ee ({ frames := 1, cells := 0, slots := 0, locals := 23 }) ss mm [.ref (ad 8 0), .ref (ad 9 a1), .int a2, .int a3].toArray bb mt cd H locs 0 0 (MQ bb (hp_Qv D vwCl (hp_Tl cA) sz (cd_pic cA ad ca0 σ0) (fun u => ∃ ca1, cd_inj ad ca1 ∧ u = cd_pic cA ad ca1 p.2)) [.ref (ad 8 0), .ref (ad 9 a1), .int a2, .int a3].toArray ss 0 0 (hp_A (cd_pic cA ad ca0 σ0) sz)) (F0 mm 49 ls [.int t0]) := by
    intro ca hj σ l2 l3 t0 H locs ls h hw hl
    refine lv_istore (lv' := [(4, .int t0), (0, .ref (ad 8 0)), (1, .ref (ad 9 a1)), (2, .int l2), (3, .int l3)]) cx.1 cx.2.1 dX8_spreadPart_49 hl (by decide) rfl (fun ls hl => ?_)
    refine lv_aload_n cx.1 cx.2.1 dX8_spreadPart_51 rfl (lv_at hl 1 rfl) ?_
    refine lv_aload_n cx.1 cx.2.1 dX8_spreadPart_52 rfl (lv_at hl 2 rfl) ?_
    refine lv_iload cx.1 cx.2.1 dX8_spreadPart_53 (lv_at hl 0 rfl) ?_
    refine lv_if_eq (tgt := 62) cx.1 cx.2.1 dX8_spreadPart_55 (by decide) (fun c55 => ?_) (fun c55 => ?_)
    · have h := md_ip c55 h
      refine lv_iload_n cx.1 cx.2.1 dX8_spreadPart_62 rfl (lv_at hl 3 rfl) ?_
      exact J63 _ hj σ l3 l2 _ _ _ h hw (lv_sub hl [2, 4] rfl)
    · have h := md_in c55 h
      refine lv_iconst (v := 1) cx.1 cx.2.1 dX8_spreadPart_58 (by decide) ?_
      refine lv_goto (tgt := 63) cx.1 cx.2.1 dX8_spreadPart_59 (by decide) ?_
      exact J63 _ hj σ l3 1 _ _ _ h hw (lv_sub hl [2, 4] rfl)
  refine lv_aload_n cx.1 cx.2.1 dX8_spreadPart_0 rfl (lv_at hl 1 rfl) ?_
  refine cd_gI (o := 9) (k := 1) (f := 289) hj cx hw hic9 rfl ⟨by decide, rfl, by decide, rfl⟩ rfl (show _ < 60 by omega) (List.mem_cons_of_mem _ cm_1012) dX8_spreadPart_1 ?_
  refine lv_iconst (v := 2) cx.1 cx.2.1 dX8_spreadPart_4 (by decide) ?_
  refine lv_icmp_ne (tgt := 22) cx.1 cx.2.1 dX8_spreadPart_5 (by decide) (fun c5 => ?_) (fun c5 => ?_)
  · have h := md_in c5 h
    refine lv_aload_n cx.1 cx.2.1 dX8_spreadPart_22 rfl (lv_at hl 1 rfl) ?_
    refine cd_gI (o := 9) (k := 1) (f := 289) hj cx hw hic9 rfl ⟨by decide, rfl, by decide, rfl⟩ rfl (show _ < 60 by omega) (List.mem_cons_of_mem _ cm_1012) dX8_spreadPart_23 ?_
    refine lv_iconst (v := 3) cx.1 cx.2.1 dX8_spreadPart_26 (by decide) ?_
    refine lv_icmp_ne (tgt := 74) cx.1 cx.2.1 dX8_spreadPart_27 (by decide) (fun c27 => ?_) (fun c27 => ?_)
    · have h := md_in c27 h
      refine lv_aload_n cx.1 cx.2.1 dX8_spreadPart_74 rfl (lv_at hl 0 rfl) ?_
      refine lv_aload_n cx.1 cx.2.1 dX8_spreadPart_75 rfl (lv_at hl 1 rfl) ?_
      refine lv_aload_n cx.1 cx.2.1 dX8_spreadPart_76 rfl (lv_at hl 0 rfl) ?_
      refine cd_gI (o := 8) (k := 2) (f := 258) hj cx hw hic8 rfl ⟨by decide, rfl, by decide, rfl⟩ rfl (by decide) (List.mem_cons_of_mem _ cm_1013) dX8_spreadPart_77 ?_
      refine lv_aload_n cx.1 cx.2.1 dX8_spreadPart_80 rfl (lv_at hl 1 rfl) ?_
      refine lv_iload_n cx.1 cx.2.1 dX8_spreadPart_81 rfl (lv_at hl 3 rfl) ?_
      obtain ⟨p3, e_p3, h⟩ := md_ob h
      refine hp_callSi (As := [.int (cI σ0 258 0), .ref (ad 9 a1), .int a3]) (rest := [.ref (ad 9 a1), .ref (ad 8 0)]) cx hw (kc_X8_meetOf l D cA E _ ad _ hj oq sgq sgv hE n σ0 ((cI σ0 258 0)) a1 a3 (show _ < 60 by omega) p3 e_p3) (cwS 3 cx.2.2.2.2.2.1 (cd_giS cm_1005 cm_1006 cm_996 cm_1007) rfl rfl rfl hdc_X8_meetOf ⟨Nat.le_of_ble_eq_true rfl, Nat.le_of_ble_eq_true rfl⟩) rfl hl.1 rfl (Nat.le_of_ble_eq_true rfl) dX8_spreadPart_82 ⟨Nat.le_refl _, Nat.le_refl _⟩ (fun r u H locs hp hw => ?_)
      obtain ⟨rfl, ca, hj, rfl⟩ := hp
      obtain ⟨p4, e_p4, h⟩ := md_ob h
      refine hp_callVv (As := [.ref (ad 9 a1), .int p3.1]) (rest := []) cx hw (kc_X8_addMay l D cA E _ ad _ hj oq sgq sgv hE n p3.2 a1 (p3.1) (show _ < 60 by omega) p4 e_p4) (cwV 2 cx.2.2.2.2.2.1 (cd_giV cm_1008 cm_1009 cm_1010 cm_996 cm_1011) rfl rfl rfl hdc_X8_addMay ⟨Nat.le_of_ble_eq_true rfl, Nat.le_of_ble_eq_true rfl⟩) (cd_atO hj (by decide) (by decide)) rfl rfl hl.1 rfl (Nat.le_of_ble_eq_true rfl) dX8_spreadPart_85 ⟨Nat.le_refl _, Nat.le_refl _⟩ (fun u H locs hp hw => ?_)
      obtain ⟨ca, hj, rfl⟩ := hp
      exact hp_vret cx hw ((cd_ret hj h).2) dX8_spreadPart_88
    · have h := md_ip c27 h
      refine lv_iload_n cx.1 cx.2.1 dX8_spreadPart_30 rfl (lv_at hl 3 rfl) ?_
      refine lv_bipush (v := 8) cx.1 cx.2.1 dX8_spreadPart_31 (by decide) ?_
      refine lv_aload_n cx.1 cx.2.1 dX8_spreadPart_33 rfl (lv_at hl 1 rfl) ?_
      refine cd_gI (o := 9) (k := 8) (f := 296) hj cx hw hic9 rfl ⟨by decide, rfl, by decide, rfl⟩ rfl (show _ < 60 by omega) (List.mem_cons_of_mem _ cm_1014) dX8_spreadPart_34 ?_
      refine lv_iadd cx.1 cx.2.1 dX8_spreadPart_37 ?_
      refine lv_iushr (v := ((a3.toUInt32 >>> (((8 : Int32) + (cI σ0 296 a1)).toUInt32 &&& Int32.toUInt32 31)).toInt32)) cx.1 cx.2.1 dX8_spreadPart_38 rfl ?_
      refine lv_iconst (v := 1) cx.1 cx.2.1 dX8_spreadPart_39 (by decide) ?_
      refine lv_iand cx.1 cx.2.1 dX8_spreadPart_40 ?_
      refine lv_if_eq (tgt := 48) cx.1 cx.2.1 dX8_spreadPart_41 (by decide) (fun c41 => ?_) (fun c41 => ?_)
      · have h := md_ip c41 h
        refine lv_iconst (v := 0) cx.1 cx.2.1 dX8_spreadPart_48 (by decide) ?_
        exact J49 _ hj σ0 a2 a3 0 _ _ _ h hw (lv_sub hl [0, 1, 2, 3] rfl)
      · have h := md_in c41 h
        refine lv_iconst (v := 1) cx.1 cx.2.1 dX8_spreadPart_44 (by decide) ?_
        refine lv_goto (tgt := 49) cx.1 cx.2.1 dX8_spreadPart_45 (by decide) ?_
        exact J49 _ hj σ0 a2 a3 1 _ _ _ h hw (lv_sub hl [0, 1, 2, 3] rfl)
  · have h := md_ip c5 h
    refine lv_aload_n cx.1 cx.2.1 dX8_spreadPart_8 rfl (lv_at hl 0 rfl) ?_
    refine lv_aload_n cx.1 cx.2.1 dX8_spreadPart_9 rfl (lv_at hl 1 rfl) ?_
    refine lv_iconst (v := 1) cx.1 cx.2.1 dX8_spreadPart_10 (by decide) ?_
    refine lv_aload_n cx.1 cx.2.1 dX8_spreadPart_11 rfl (lv_at hl 1 rfl) ?_
    refine lv_iload_n cx.1 cx.2.1 dX8_spreadPart_12 rfl (lv_at hl 3 rfl) ?_
    obtain ⟨p5, e_p5, h⟩ := md_ob h
    refine hp_callSi (As := [.int 1, .ref (ad 9 a1), .int a3]) (rest := [.ref (ad 9 a1), .ref (ad 8 0)]) cx hw (kc_X8_meetOf l D cA E _ ad _ hj oq sgq sgv hE n σ0 (1 : Int32) a1 a3 (show _ < 60 by omega) p5 e_p5) (cwS 3 cx.2.2.2.2.2.1 (cd_giS cm_1005 cm_1006 cm_996 cm_1007) rfl rfl rfl hdc_X8_meetOf ⟨Nat.le_of_ble_eq_true rfl, Nat.le_of_ble_eq_true rfl⟩) rfl hl.1 rfl (Nat.le_of_ble_eq_true rfl) dX8_spreadPart_13 ⟨Nat.le_refl _, Nat.le_refl _⟩ (fun r u H locs hp hw => ?_)
    obtain ⟨rfl, ca, hj, rfl⟩ := hp
    obtain ⟨p6, e_p6, h⟩ := md_ob h
    refine hp_callVv (As := [.ref (ad 9 a1), .int p5.1]) (rest := []) cx hw (kc_X8_addMay l D cA E _ ad _ hj oq sgq sgv hE n p5.2 a1 (p5.1) (show _ < 60 by omega) p6 e_p6) (cwV 2 cx.2.2.2.2.2.1 (cd_giV cm_1008 cm_1009 cm_1010 cm_996 cm_1011) rfl rfl rfl hdc_X8_addMay ⟨Nat.le_of_ble_eq_true rfl, Nat.le_of_ble_eq_true rfl⟩) (cd_atO hj (by decide) (by decide)) rfl rfl hl.1 rfl (Nat.le_of_ble_eq_true rfl) dX8_spreadPart_16 ⟨Nat.le_refl _, Nat.le_refl _⟩ (fun u H locs hp hw => ?_)
    obtain ⟨ca, hj, rfl⟩ := hp
    refine lv_goto (tgt := 88) cx.1 cx.2.1 dX8_spreadPart_19 (by decide) ?_
    exact hp_vret cx hw ((cd_ret hj h).2) dX8_spreadPart_88
set_option maxHeartbeats 4000000 in
set_option maxRecDepth 100000 in
theorem kc_X8_spread (l : Launch) (D : va_G) (cA : Nat → ClassId) (E : hp_N) (sz : Nat) (ad : Nat → Nat → Nat) (ca0 : Nat → Nat) (hj : cd_inj ad ca0) (oq sgq sgv : Nat) (hE : cd_E E oq sgq sgv) (n : Nat) (σ0 : cd_S) (a1 : Nat) (a2 : Int32) (hb_a1 : a1 < 60) (p : (Int32 × cd_S)) (h : f_X8_spread n σ0 a1 a2 = some p) : Met l yX8_spread (Cond.code yX8_spread cX8_spread 6 none :: v_CLS) ({ frames := 2, cells := 0, slots := 0, locals := 49 }) (hp_Pc D vwCl (hp_Tl cA) E sz (cd_pic cA ad ca0 σ0) [.ref (ad 8 0), .ref (ad 9 a1), .int a2]) (hp_Qv D vwCl (hp_Tl cA) sz (cd_pic cA ad ca0 σ0) (fun u => ∃ ca1, cd_inj ad ca1 ∧ u = cd_pic cA ad ca1 p.2)) 0 0 (hp_A (cd_pic cA ad ca0 σ0) sz) := by
  refine hp_ofW (cc := cX8_spread) (maxL := 6) (ret := none) (by decide) rfl (Nat.le_of_ble_eq_true rfl) ?_
  intro pp ee ss mm bb mt cd ls cx hsz hw hl
  have hl : lv_has ls 6 [(0, .ref (ad 8 0)), (1, .ref (ad 9 a1)), (2, .int a2)] := hl
  refine lv_aload_n cx.1 cx.2.1 dX8_spread_0 rfl (lv_at hl 0 rfl) ?_
  refine lv_aload_n cx.1 cx.2.1 dX8_spread_1 rfl (lv_at hl 1 rfl) ?_
  refine cd_gI (o := 9) (k := 0) (f := 288) hj cx hw hic9 rfl ⟨by decide, rfl, by decide, rfl⟩ rfl (show _ < 60 by omega) (List.mem_cons_of_mem _ cm_1003) dX8_spread_2 ?_
  obtain ⟨p1, e_p1, h⟩ := md_ob h
  refine hp_callVi (As := [.int (cI σ0 288 a1)]) (rest := []) cx hw (kc_X8_mayOf l D cA E _ ad _ hj oq sgq sgv hE n σ0 ((cI σ0 288 a1)) p1 e_p1) (cwV 1 cx.2.2.2.2.2.1 (cd_giV cm_1015 cm_1016 cm_1017 cm_996 cm_1018) rfl rfl rfl hdc_X8_mayOf ⟨Nat.le_of_ble_eq_true rfl, Nat.le_of_ble_eq_true rfl⟩) (cd_atO hj (by decide) (by decide)) rfl rfl hl.1 rfl (Nat.le_of_ble_eq_true rfl) dX8_spread_5 ⟨Nat.le_refl _, Nat.le_refl _⟩ (fun r u H locs hp hw => ?_)
  obtain ⟨rfl, ca, hj, rfl⟩ := hp
  refine lv_istore_n (lv' := [(3, .int p1.1), (0, .ref (ad 8 0)), (1, .ref (ad 9 a1)), (2, .int a2)]) cx.1 cx.2.1 dX8_spread_8 rfl hl (by decide) rfl (fun ls hl => ?_)
  refine lv_iconst (v := 0) cx.1 cx.2.1 dX8_spread_9 (by decide) ?_
  refine lv_istore (lv' := [(4, .int 0), (3, .int p1.1), (0, .ref (ad 8 0)), (1, .ref (ad 9 a1)), (2, .int a2)]) cx.1 cx.2.1 dX8_spread_10 hl (by decide) rfl (fun ls hl => ?_)
  have L12 : ∀ (j : Nat) (ca : Nat → Nat) (hj : cd_inj ad ca) (σ : cd_S) (l2 : Int32) (l3 : Int32) (l4 : Int32) (q : (cd_S × Int32)) (H : Heap) (locs : List Loc) (ls : Array Slot), f_X8_spread_L12 n a1 l2 l3 j σ l4 = some q → hp_w D vwCl (hp_Tl cA) E (hp_A (cd_pic cA ad ca0 σ0) sz) ss H locs (cd_pic cA ad ca σ) → lv_has ls 6 [(0, .ref (ad 8 0)), (1, .ref (ad 9 a1)), (2, .int l2), (3, .int l3), (4, .int l4)] → (∀ (ca : Nat → Nat) (hj : cd_inj ad ca) (H : Heap) (locs : List Loc) (ls : Array Slot), hp_w D vwCl (hp_Tl cA) E (hp_A (cd_pic cA ad ca0 σ0) sz) ss H locs (cd_pic cA ad ca q.1) → lv_has ls 6 [] → W pp l ee ({ frames := 2, cells := 0, slots := 0, locals := 49 }) ss mm [.ref (ad 8 0), .ref (ad 9 a1), .int a2].toArray bb mt cd H locs 0 0 (MQ bb (hp_Qv D vwCl (hp_Tl cA) sz (cd_pic cA ad ca0 σ0) (fun u => ∃ ca1, cd_inj ad ca1 ∧ u = cd_pic cA ad ca1 p.2)) [.ref (ad 8 0), .ref (ad 9 a1), .int a2].toArray ss 0 0 (hp_A (cd_pic cA ad ca0 σ0) sz)) (F0 mm 140 ls [])) → W pp l ee ({ frames := 2, cells := 0, slots := 0, locals := 49 }) ss mm [.ref (ad 8 0), .ref (ad 9 a1), .int a2].toArray bb mt cd H locs 0 0 (MQ bb (hp_Qv D vwCl (hp_Tl cA) sz (cd_pic cA ad ca0 σ0) (fun u => ∃ ca1, cd_inj ad ca1 ∧ u = cd_pic cA ad ca1 p.2)) [.ref (ad 8 0), .ref (ad 9 a1), .int a2].toArray ss 0 0 (hp_A (cd_pic cA ad ca0 σ0) sz)) (F0 mm 12 ls []) := by
    intro j
    induction j with
    | zero => intro ca hj σ l2 l3 l4 q H locs ls h; exact nomatch h
    | succ j ih =>
      intro ca hj σ l2 l3 l4 q H locs ls h hw hl K
      unfold f_X8_spread_L12 at h
      have J134 : ∀ (ca : Nat → Nat) (hj : cd_inj ad ca) (σ : cd_S) (l4 : Int32) (H : Heap) (locs : List Loc) (ls : Array Slot), f_X8_spread_J134 n a1 l2 l3 (f_X8_spread_L12 n a1 l2 l3 j) σ l4 = some q → hp_w D vwCl (hp_Tl cA) E (hp_A (cd_pic cA ad ca0 σ0) sz) ss H locs (cd_pic cA ad ca σ) → lv_has ls 6 [(0, .ref (ad 8 0)), (1, .ref (ad 9 a1)), (2, .int l2), (3, .int l3), (4, .int l4)] → W pp l ee ({ frames := 2, cells := 0, slots := 0, locals := 49 }) ss mm [.ref (ad 8 0), .ref (ad 9 a1), .int a2].toArray bb mt cd H locs 0 0 (MQ bb (hp_Qv D vwCl (hp_Tl cA) sz (cd_pic cA ad ca0 σ0) (fun u => ∃ ca1, cd_inj ad ca1 ∧ u = cd_pic cA ad ca1 p.2)) [.ref (ad 8 0), .ref (ad 9 a1), .int a2].toArray ss 0 0 (hp_A (cd_pic cA ad ca0 σ0) sz)) (F0 mm 134 ls []) := by
        intro ca hj σ l4 H locs ls h hw hl
        refine lv_iinc (v := (l4 + 1)) (lv' := [(4, .int (l4 + 1)), (0, .ref (ad 8 0)), (1, .ref (ad 9 a1)), (2, .int l2), (3, .int l3)]) cx.1 cx.2.1 dX8_spread_134 hl (k := 4) rfl rfl (by decide) rfl (fun ls hl => ?_)
        refine lv_goto (tgt := 12) cx.1 cx.2.1 dX8_spread_137 (by decide) ?_
        exact ih _ hj σ l2 l3 ((l4 + 1)) q _ _ _ h hw (lv_sub hl [1, 2, 3, 4, 0] rfl) K
      have J62 : ∀ (ca : Nat → Nat) (hj : cd_inj ad ca) (σ : cd_S) (l4 : Int32) (t0 : Int32) (H : Heap) (locs : List Loc) (ls : Array Slot), f_X8_spread_J62 n a1 l2 l3 (f_X8_spread_L12 n a1 l2 l3 j) σ l4 t0 = some q → hp_w D vwCl (hp_Tl cA) E (hp_A (cd_pic cA ad ca0 σ0) sz) ss H locs (cd_pic cA ad ca σ) → lv_has ls 6 [(0, .ref (ad 8 0)), (1, .ref (ad 9 a1)), (2, .int l2), (3, .int l3), (4, .int l4)] → W pp l ee ({ frames := 2, cells := 0, slots := 0, locals := 49 }) ss mm [.ref (ad 8 0), .ref (ad 9 a1), .int a2].toArray bb mt cd H locs 0 0 (MQ bb (hp_Qv D vwCl (hp_Tl cA) sz (cd_pic cA ad ca0 σ0) (fun u => ∃ ca1, cd_inj ad ca1 ∧ u = cd_pic cA ad ca1 p.2)) [.ref (ad 8 0), .ref (ad 9 a1), .int a2].toArray ss 0 0 (hp_A (cd_pic cA ad ca0 σ0) sz)) (F0 mm 62 ls [.int t0, .ref (ad 8 0)]) := by
        intro ca hj σ l4 t0 H locs ls h hw hl
        obtain ⟨z2, e_z2, h⟩ := md_ob h
        obtain ⟨σ3, e_σ3, h⟩ := md_ob h
        refine cd_pZ (o := 8) (k := 3) (f := 259) hj cx hw hic8 rfl ⟨by decide, rfl, by decide, rfl⟩ tyX8_ok nmX8 rfl (by decide) rfl (List.mem_cons_of_mem _ cm_987) rfl (md_zbs e_z2).2 e_σ3 dX8_spread_62 (fun H locs hw => ?_)
        refine lv_aload_n cx.1 cx.2.1 dX8_spread_65 rfl (lv_at hl 0 rfl) ?_
        refine lv_dup cx.1 cx.2.1 dX8_spread_66 rfl ?_
        refine cd_gI (o := 8) (k := 2) (f := 258) hj cx hw hic8 rfl ⟨by decide, rfl, by decide, rfl⟩ rfl (by decide) (List.mem_cons_of_mem _ cm_1013) dX8_spread_67 ?_
        refine lv_iload_n cx.1 cx.2.1 dX8_spread_70 rfl (lv_at hl 3 rfl) ?_
        refine lv_ior cx.1 cx.2.1 dX8_spread_71 ?_
        obtain ⟨σ4, e_σ4, h⟩ := md_ob h
        refine cd_pI (o := 8) (k := 2) (f := 258) hj cx hw hic8 rfl ⟨by decide, rfl, by decide, rfl⟩ tyX8_ok nmX8 rfl (by decide) rfl (List.mem_cons_of_mem _ cm_1013) rfl e_σ4 dX8_spread_72 (fun H locs hw => ?_)
        refine lv_goto (tgt := 134) cx.1 cx.2.1 dX8_spread_75 (by decide) ?_
        exact J134 _ hj σ4 l4 _ _ _ h hw (lv_sub hl [0, 1, 2, 3, 4] rfl)
      have J57 : ∀ (ca : Nat → Nat) (hj : cd_inj ad ca) (σ : cd_S) (l4 : Int32) (H : Heap) (locs : List Loc) (ls : Array Slot), f_X8_spread_J57 n a1 l2 l3 (f_X8_spread_L12 n a1 l2 l3 j) σ l4 = some q → hp_w D vwCl (hp_Tl cA) E (hp_A (cd_pic cA ad ca0 σ0) sz) ss H locs (cd_pic cA ad ca σ) → lv_has ls 6 [(0, .ref (ad 8 0)), (1, .ref (ad 9 a1)), (2, .int l2), (3, .int l3), (4, .int l4)] → W pp l ee ({ frames := 2, cells := 0, slots := 0, locals := 49 }) ss mm [.ref (ad 8 0), .ref (ad 9 a1), .int a2].toArray bb mt cd H locs 0 0 (MQ bb (hp_Qv D vwCl (hp_Tl cA) sz (cd_pic cA ad ca0 σ0) (fun u => ∃ ca1, cd_inj ad ca1 ∧ u = cd_pic cA ad ca1 p.2)) [.ref (ad 8 0), .ref (ad 9 a1), .int a2].toArray ss 0 0 (hp_A (cd_pic cA ad ca0 σ0) sz)) (F0 mm 57 ls [.ref (ad 8 0)]) := by
        intro ca hj σ l4 H locs ls h hw hl
        refine lv_iconst (v := 1) cx.1 cx.2.1 dX8_spread_57 (by decide) ?_
        refine lv_goto (tgt := 62) cx.1 cx.2.1 dX8_spread_58 (by decide) ?_
        exact J62 _ hj σ l4 1 _ _ _ h hw (lv_sub hl [0, 1, 2, 3, 4] rfl)
      refine lv_iload cx.1 cx.2.1 dX8_spread_12 (lv_at hl 4 rfl) ?_
      refine lv_aload_n cx.1 cx.2.1 dX8_spread_14 rfl (lv_at hl 1 rfl) ?_
      obtain ⟨p5, e_p5, h⟩ := md_ob h
      refine hp_callVi (As := []) (rest := [.int l4]) cx hw (kc_X9_length l D cA E _ ad _ hj oq sgq sgv hE n σ a1 (show _ < 60 by omega) p5 e_p5) (cwV 0 cx.2.2.2.2.2.1 (cd_giV cm_988 cm_620 cm_621 cm_114 cm_622) rfl rfl rfl hdc_X9_length ⟨Nat.le_of_ble_eq_true rfl, Nat.le_of_ble_eq_true rfl⟩) (cd_atO hj (by decide) (show _ < 60 by omega)) rfl rfl hl.1 rfl (Nat.le_of_ble_eq_true rfl) dX8_spread_15 ⟨Nat.le_refl _, Nat.le_refl _⟩ (fun r u H locs hp hw => ?_)
      obtain ⟨rfl, ca, hj, rfl⟩ := hp
      refine lv_icmp_ge (tgt := 140) cx.1 cx.2.1 dX8_spread_18 (by decide) (fun c18 => ?_) (fun c18 => ?_)
      · have h := md_ip c18 h
        obtain rfl := Option.some.inj h
        exact K _ hj _ _ _ hw (lv_sub hl [] rfl)
      · have h := md_in c18 h
        refine lv_aload_n cx.1 cx.2.1 dX8_spread_21 rfl (lv_at hl 1 rfl) ?_
        refine lv_iload cx.1 cx.2.1 dX8_spread_22 (lv_at hl 4 rfl) ?_
        obtain ⟨p6, e_p6, h⟩ := md_ob h
        refine hp_callVi (As := [.int l4]) (rest := []) cx hw (kc_X9_what l D cA E _ ad _ hj oq sgq sgv hE n p5.2 a1 l4 (show _ < 60 by omega) p6 e_p6) (cwV 1 cx.2.2.2.2.2.1 (cd_giV cm_989 cm_590 cm_591 cm_114 cm_592) rfl rfl rfl hdc_X9_what ⟨Nat.le_of_ble_eq_true rfl, Nat.le_of_ble_eq_true rfl⟩) (cd_atO hj (by decide) (show _ < 60 by omega)) rfl rfl hl.1 rfl (Nat.le_of_ble_eq_true rfl) dX8_spread_24 ⟨Nat.le_refl _, Nat.le_refl _⟩ (fun r u H locs hp hw => ?_)
        obtain ⟨rfl, ca, hj, rfl⟩ := hp
        refine lv_istore (lv' := [(5, .int p6.1), (0, .ref (ad 8 0)), (1, .ref (ad 9 a1)), (2, .int l2), (3, .int l3), (4, .int l4)]) cx.1 cx.2.1 dX8_spread_27 hl (by decide) rfl (fun ls hl => ?_)
        refine lv_iload cx.1 cx.2.1 dX8_spread_29 (lv_at hl 0 rfl) ?_
        refine lv_bipush (v := 27) cx.1 cx.2.1 dX8_spread_31 (by decide) ?_
        refine lv_icmp_ne (tgt := 78) cx.1 cx.2.1 dX8_spread_33 (by decide) (fun c33 => ?_) (fun c33 => ?_)
        · have h := md_in c33 h
          refine lv_iload cx.1 cx.2.1 dX8_spread_78 (lv_at hl 0 rfl) ?_
          refine lv_bipush (v := 10) cx.1 cx.2.1 dX8_spread_80 (by decide) ?_
          refine lv_icmp_ne (tgt := 107) cx.1 cx.2.1 dX8_spread_82 (by decide) (fun c82 => ?_) (fun c82 => ?_)
          · have h := md_in c82 h
            refine lv_aload_n cx.1 cx.2.1 dX8_spread_107 rfl (lv_at hl 1 rfl) ?_
            refine lv_aload_n cx.1 cx.2.1 dX8_spread_108 rfl (lv_at hl 1 rfl) ?_
            refine cd_gO (o2 := 2) (e2 := 0) (o := 8) (k := 0) (f := 256) hj cx hw hic8 rfl ⟨by decide, rfl, by decide, rfl⟩ rfl (by decide) ⟨rfl, rfl⟩ (List.mem_cons_of_mem _ cm_982) dX8_spread_109 ?_
            refine lv_iload cx.1 cx.2.1 dX8_spread_112 (lv_at hl 0 rfl) ?_
            refine lv_aload_n cx.1 cx.2.1 dX8_spread_114 rfl (lv_at hl 2 rfl) ?_
            refine lv_iload cx.1 cx.2.1 dX8_spread_115 (lv_at hl 5 rfl) ?_
            obtain ⟨p7, e_p7, h⟩ := md_ob h
            refine hp_callVi (As := [.int l4]) (rest := [.int p6.1, .ref (ad 2 0), .ref (ad 8 0)]) cx hw (kc_X9_first l D cA E _ ad _ hj oq sgq sgv hE n p6.2 a1 l4 (show _ < 60 by omega) p7 e_p7) (cwV 1 cx.2.2.2.2.2.1 (cd_giV cm_990 cm_594 cm_595 cm_114 cm_596) rfl rfl rfl hdc_X9_first ⟨Nat.le_of_ble_eq_true rfl, Nat.le_of_ble_eq_true rfl⟩) (cd_atO hj (by decide) (show _ < 60 by omega)) rfl rfl hl.1 rfl (Nat.le_of_ble_eq_true rfl) dX8_spread_117 ⟨Nat.le_refl _, Nat.le_refl _⟩ (fun r u H locs hp hw => ?_)
            obtain ⟨rfl, ca, hj, rfl⟩ := hp
            refine lv_aload_n cx.1 cx.2.1 dX8_spread_120 rfl (lv_at hl 2 rfl) ?_
            refine lv_iload cx.1 cx.2.1 dX8_spread_121 (lv_at hl 5 rfl) ?_
            obtain ⟨p8, e_p8, h⟩ := md_ob h
            refine hp_callVi (As := [.int l4]) (rest := [.int p7.1, .int p6.1, .ref (ad 2 0), .ref (ad 8 0)]) cx hw (kc_X9_second l D cA E _ ad _ hj oq sgq sgv hE n p7.2 a1 l4 (show _ < 60 by omega) p8 e_p8) (cwV 1 cx.2.2.2.2.2.1 (cd_giV cm_991 cm_599 cm_600 cm_114 cm_601) rfl rfl rfl hdc_X9_second ⟨Nat.le_of_ble_eq_true rfl, Nat.le_of_ble_eq_true rfl⟩) (cd_atO hj (by decide) (show _ < 60 by omega)) rfl rfl hl.1 rfl (Nat.le_of_ble_eq_true rfl) dX8_spread_123 ⟨Nat.le_refl _, Nat.le_refl _⟩ (fun r u H locs hp hw => ?_)
            obtain ⟨rfl, ca, hj, rfl⟩ := hp
            obtain ⟨p9, e_p9, h⟩ := md_ob h
            refine hp_callVi (As := [.int p6.1, .int p7.1, .int p8.1]) (rest := [.ref (ad 8 0)]) cx hw (kc_X2_groupBegun l D cA E _ ad _ hj oq sgq sgv hE n p8.2 (p6.1) (p7.1) (p8.1) p9 e_p9) (cwV 3 cx.2.2.2.2.2.1 (cd_giV cm_1019 cm_564 cm_565 cm_167 cm_566) rfl rfl rfl hdc_X2_groupBegun ⟨Nat.le_of_ble_eq_true rfl, Nat.le_of_ble_eq_true rfl⟩) (cd_atO hj (by decide) (by decide)) rfl rfl hl.1 rfl (Nat.le_of_ble_eq_true rfl) dX8_spread_126 ⟨Nat.le_refl _, Nat.le_refl _⟩ (fun r u H locs hp hw => ?_)
            obtain ⟨rfl, ca, hj, rfl⟩ := hp
            refine lv_iload_n cx.1 cx.2.1 dX8_spread_129 rfl (lv_at hl 4 rfl) ?_
            refine lv_iload_n cx.1 cx.2.1 dX8_spread_130 rfl (lv_at hl 3 rfl) ?_
            obtain ⟨p10, e_p10, h⟩ := md_ob h
            refine hp_callVv (As := [.int p9.1, .int l3, .int l2]) (rest := []) cx hw (kc_X8_spreadGroup l D cA E _ ad _ hj oq sgq sgv hE n p9.2 (p9.1) l3 l2 p10 e_p10) (cwV 3 cx.2.2.2.2.2.1 (cd_giV cm_1020 cm_1021 cm_1022 cm_996 cm_1023) rfl rfl rfl hdc_X8_spreadGroup ⟨Nat.le_of_ble_eq_true rfl, Nat.le_of_ble_eq_true rfl⟩) (cd_atO hj (by decide) (by decide)) rfl rfl hl.1 rfl (Nat.le_of_ble_eq_true rfl) dX8_spread_131 ⟨Nat.le_refl _, Nat.le_refl _⟩ (fun u H locs hp hw => ?_)
            obtain ⟨ca, hj, rfl⟩ := hp
            exact J134 _ hj p10.2 l4 _ _ _ h hw (lv_sub hl [1, 2, 3, 4, 5] rfl)
          · have h := md_ip c82 h
            refine lv_aload_n cx.1 cx.2.1 dX8_spread_85 rfl (lv_at hl 1 rfl) ?_
            refine lv_aload_n cx.1 cx.2.1 dX8_spread_86 rfl (lv_at hl 1 rfl) ?_
            refine cd_gO (o2 := 2) (e2 := 0) (o := 8) (k := 0) (f := 256) hj cx hw hic8 rfl ⟨by decide, rfl, by decide, rfl⟩ rfl (by decide) ⟨rfl, rfl⟩ (List.mem_cons_of_mem _ cm_982) dX8_spread_87 ?_
            refine lv_aload_n cx.1 cx.2.1 dX8_spread_90 rfl (lv_at hl 2 rfl) ?_
            refine lv_iload cx.1 cx.2.1 dX8_spread_91 (lv_at hl 5 rfl) ?_
            obtain ⟨p11, e_p11, h⟩ := md_ob h
            refine hp_callVi (As := [.int l4]) (rest := [.ref (ad 2 0), .ref (ad 8 0)]) cx hw (kc_X9_first l D cA E _ ad _ hj oq sgq sgv hE n p6.2 a1 l4 (show _ < 60 by omega) p11 e_p11) (cwV 1 cx.2.2.2.2.2.1 (cd_giV cm_990 cm_594 cm_595 cm_114 cm_596) rfl rfl rfl hdc_X9_first ⟨Nat.le_of_ble_eq_true rfl, Nat.le_of_ble_eq_true rfl⟩) (cd_atO hj (by decide) (show _ < 60 by omega)) rfl rfl hl.1 rfl (Nat.le_of_ble_eq_true rfl) dX8_spread_93 ⟨Nat.le_refl _, Nat.le_refl _⟩ (fun r u H locs hp hw => ?_)
            obtain ⟨rfl, ca, hj, rfl⟩ := hp
            obtain ⟨p12, e_p12, h⟩ := md_ob h
            refine hp_callVr (As := [.int p11.1]) (rest := [.ref (ad 8 0)]) cx hw (kc_X2_unitAt l D cA E _ ad _ hj oq sgq sgv hE n p11.2 (p11.1) p12 e_p12) (cwV 1 cx.2.2.2.2.2.1 (cd_giV cm_984 cm_285 cm_286 cm_167 cm_287) rfl rfl rfl hdc_X2_unitAt ⟨Nat.le_of_ble_eq_true rfl, Nat.le_of_ble_eq_true rfl⟩) (cd_atO hj (by decide) (by decide)) rfl rfl hl.1 rfl (Nat.le_of_ble_eq_true rfl) dX8_spread_96 ⟨Nat.le_refl _, Nat.le_refl _⟩ (fun r u H locs hp hw => ?_)
            obtain ⟨⟨hb_p12, rfl⟩, ca, hj, rfl⟩ := hp
            refine lv_iload_n cx.1 cx.2.1 dX8_spread_99 rfl (lv_at hl 4 rfl) ?_
            refine lv_iload_n cx.1 cx.2.1 dX8_spread_100 rfl (lv_at hl 3 rfl) ?_
            obtain ⟨p13, e_p13, h⟩ := md_ob h
            refine hp_callVv (As := [.ref (ad 9 p12.1), .int l3, .int l2]) (rest := []) cx hw (kc_X8_spreadPart l D cA E _ ad _ hj oq sgq sgv hE n p12.2 (p12.1) l3 l2 (show _ < 60 by omega) p13 e_p13) (cwV 3 cx.2.2.2.2.2.1 (cd_giV cm_1024 cm_1025 cm_1026 cm_996 cm_1027) rfl rfl rfl hdc_X8_spreadPart ⟨Nat.le_of_ble_eq_true rfl, Nat.le_of_ble_eq_true rfl⟩) (cd_atO hj (by decide) (by decide)) rfl rfl hl.1 rfl (Nat.le_of_ble_eq_true rfl) dX8_spread_101 ⟨Nat.le_refl _, Nat.le_refl _⟩ (fun u H locs hp hw => ?_)
            obtain ⟨ca, hj, rfl⟩ := hp
            refine lv_goto (tgt := 134) cx.1 cx.2.1 dX8_spread_104 (by decide) ?_
            exact J134 _ hj p13.2 l4 _ _ _ h hw (lv_sub hl [1, 2, 3, 4, 5] rfl)
        · have h := md_ip c33 h
          refine lv_aload_n cx.1 cx.2.1 dX8_spread_36 rfl (lv_at hl 1 rfl) ?_
          refine lv_aload_n cx.1 cx.2.1 dX8_spread_37 rfl (lv_at hl 1 rfl) ?_
          refine cd_gI (o := 8) (k := 3) (f := 259) hj cx hw hic8 rfl ⟨by decide, rfl, by decide, rfl⟩ rfl (by decide) (List.mem_cons_of_mem _ cm_987) dX8_spread_38 ?_
          refine lv_if_ne (tgt := 57) cx.1 cx.2.1 dX8_spread_41 (by decide) (fun c41 => ?_) (fun c41 => ?_)
          · have h := md_in c41 h
            exact J57 _ hj p6.2 l4 _ _ _ h hw (lv_sub hl [1, 2, 3, 4, 5] rfl)
          · have h := md_ip c41 h
            refine lv_aload_n cx.1 cx.2.1 dX8_spread_44 rfl (lv_at hl 1 rfl) ?_
            refine cd_gI (o := 8) (k := 2) (f := 258) hj cx hw hic8 rfl ⟨by decide, rfl, by decide, rfl⟩ rfl (by decide) (List.mem_cons_of_mem _ cm_1013) dX8_spread_45 ?_
            refine lv_iload_n cx.1 cx.2.1 dX8_spread_48 rfl (lv_at hl 4 rfl) ?_
            refine lv_ior cx.1 cx.2.1 dX8_spread_49 ?_
            refine lv_aload_n cx.1 cx.2.1 dX8_spread_50 rfl (lv_at hl 1 rfl) ?_
            refine cd_gI (o := 8) (k := 2) (f := 258) hj cx hw hic8 rfl ⟨by decide, rfl, by decide, rfl⟩ rfl (by decide) (List.mem_cons_of_mem _ cm_1013) dX8_spread_51 ?_
            refine lv_icmp_eq (tgt := 61) cx.1 cx.2.1 dX8_spread_54 (by decide) (fun c54 => ?_) (fun c54 => ?_)
            · have h := md_ip c54 h
              refine lv_iconst (v := 0) cx.1 cx.2.1 dX8_spread_61 (by decide) ?_
              exact J62 _ hj p6.2 l4 0 _ _ _ h hw (lv_sub hl [1, 2, 3, 4, 5] rfl)
            · have h := md_in c54 h
              exact J57 _ hj p6.2 l4 _ _ _ h hw (lv_sub hl [1, 2, 3, 4, 5] rfl)
  obtain ⟨q14, e_q14, h⟩ := md_ob h
  refine L12 n _ hj p1.2 a2 (p1.1) 0 q14 _ _ _ e_q14 hw (lv_sub hl [2, 3, 4, 1, 0] rfl) (fun ca hj H locs ls hw hl => ?_)
  exact hp_vret cx hw ((cd_ret hj h).2) dX8_spread_140
set_option maxHeartbeats 4000000 in
set_option maxRecDepth 100000 in
theorem kc_X8_findMay (l : Launch) (D : va_G) (cA : Nat → ClassId) (E : hp_N) (sz : Nat) (ad : Nat → Nat → Nat) (ca0 : Nat → Nat) (hj : cd_inj ad ca0) (oq sgq sgv : Nat) (hE : cd_E E oq sgq sgv) (n : Nat) (σ0 : cd_S) (a1 : Int32) (p : (Int32 × cd_S)) (h : f_X8_findMay n σ0 a1 = some p) : Met l yX8_findMay (Cond.code yX8_findMay cX8_findMay 4 none :: v_CLS) ({ frames := 3, cells := 0, slots := 0, locals := 74 }) (hp_Pc D vwCl (hp_Tl cA) E sz (cd_pic cA ad ca0 σ0) [.ref (ad 8 0), .int a1]) (hp_Qv D vwCl (hp_Tl cA) sz (cd_pic cA ad ca0 σ0) (fun u => ∃ ca1, cd_inj ad ca1 ∧ u = cd_pic cA ad ca1 p.2)) 0 0 (hp_A (cd_pic cA ad ca0 σ0) sz) := by
  refine hp_ofW (cc := cX8_findMay) (maxL := 4) (ret := none) (by decide) rfl (Nat.le_of_ble_eq_true rfl) ?_
  intro pp ee ss mm bb mt cd ls cx hsz hw hl
  have hl : lv_has ls 4 [(0, .ref (ad 8 0)), (1, .int a1)] := hl
  refine lv_aload_n cx.1 cx.2.1 dX8_findMay_0 rfl (lv_at hl 0 rfl) ?_
  refine cd_gA (o := 8) (k := 1) (f := 257) hj cx hw hic8 rfl ⟨by decide, rfl, by decide, rfl⟩ rfl (by decide) (List.mem_cons_of_mem _ cm_1002) dX8_findMay_1 ?_
  refine lv_iconst (v := 0) cx.1 cx.2.1 dX8_findMay_4 (by decide) ?_
  obtain ⟨p1, e_p1, h⟩ := md_ob h
  refine hp_callSv (As := [.ref (ad 357 0), .int 0]) (rest := []) cx hw (kc_J7_fill_257 l D cA E _ ad _ hj oq sgq sgv hE n σ0 0 p1 e_p1) (va_cwS 2 cx.2.2.2.2.2.1 (cd_giS cm_1028 cm_11 cm_12 cm_13) rfl rfl rfl (cd_hdS hdc_J7_fill_53178) ⟨Nat.le_of_ble_eq_true rfl, Nat.le_of_ble_eq_true rfl⟩) rfl hl.1 rfl (Nat.le_of_ble_eq_true rfl) dX8_findMay_5 ⟨Nat.le_refl _, Nat.le_refl _⟩ (fun u H locs hp hw => ?_)
  obtain ⟨ca, hj, rfl⟩ := hp
  refine lv_aload_n cx.1 cx.2.1 dX8_findMay_8 rfl (lv_at hl 0 rfl) ?_
  refine lv_iconst (v := 0) cx.1 cx.2.1 dX8_findMay_9 (by decide) ?_
  obtain ⟨σ2, e_σ2, h⟩ := md_ob h
  refine cd_pI (o := 8) (k := 2) (f := 258) hj cx hw hic8 rfl ⟨by decide, rfl, by decide, rfl⟩ tyX8_ok nmX8 rfl (by decide) rfl (List.mem_cons_of_mem _ cm_1013) rfl e_σ2 dX8_findMay_10 (fun H locs hw => ?_)
  refine lv_iconst (v := 0) cx.1 cx.2.1 dX8_findMay_13 (by decide) ?_
  refine lv_istore_n (lv' := [(2, .int 0), (0, .ref (ad 8 0)), (1, .int a1)]) cx.1 cx.2.1 dX8_findMay_14 rfl hl (by decide) rfl (fun ls hl => ?_)
  have L15 : ∀ (j : Nat) (ca : Nat → Nat) (hj : cd_inj ad ca) (σ : cd_S) (l1 : Int32) (l2 : Int32) (q : (cd_S × Int32)) (H : Heap) (locs : List Loc) (ls : Array Slot), f_X8_findMay_L15 n l1 j σ l2 = some q → hp_w D vwCl (hp_Tl cA) E (hp_A (cd_pic cA ad ca0 σ0) sz) ss H locs (cd_pic cA ad ca σ) → lv_has ls 4 [(0, .ref (ad 8 0)), (1, .int l1), (2, .int l2)] → (∀ (ca : Nat → Nat) (hj : cd_inj ad ca) (H : Heap) (locs : List Loc) (ls : Array Slot), hp_w D vwCl (hp_Tl cA) E (hp_A (cd_pic cA ad ca0 σ0) sz) ss H locs (cd_pic cA ad ca q.1) → lv_has ls 4 [(0, .ref (ad 8 0)), (1, .int l1)] → W pp l ee ({ frames := 3, cells := 0, slots := 0, locals := 74 }) ss mm [.ref (ad 8 0), .int a1].toArray bb mt cd H locs 0 0 (MQ bb (hp_Qv D vwCl (hp_Tl cA) sz (cd_pic cA ad ca0 σ0) (fun u => ∃ ca1, cd_inj ad ca1 ∧ u = cd_pic cA ad ca1 p.2)) [.ref (ad 8 0), .int a1].toArray ss 0 0 (hp_A (cd_pic cA ad ca0 σ0) sz)) (F0 mm 66 ls [])) → W pp l ee ({ frames := 3, cells := 0, slots := 0, locals := 74 }) ss mm [.ref (ad 8 0), .int a1].toArray bb mt cd H locs 0 0 (MQ bb (hp_Qv D vwCl (hp_Tl cA) sz (cd_pic cA ad ca0 σ0) (fun u => ∃ ca1, cd_inj ad ca1 ∧ u = cd_pic cA ad ca1 p.2)) [.ref (ad 8 0), .int a1].toArray ss 0 0 (hp_A (cd_pic cA ad ca0 σ0) sz)) (F0 mm 15 ls []) := by
    intro j
    induction j with
    | zero => intro ca hj σ l1 l2 q H locs ls h; exact nomatch h
    | succ j ih =>
      intro ca hj σ l1 l2 q H locs ls h hw hl K
      unfold f_X8_findMay_L15 at h
      have J60 : ∀ (ca : Nat → Nat) (hj : cd_inj ad ca) (σ : cd_S) (l2 : Int32) (H : Heap) (locs : List Loc) (ls : Array Slot), f_X8_findMay_J60 n l1 (f_X8_findMay_L15 n l1 j) σ l2 = some q → hp_w D vwCl (hp_Tl cA) E (hp_A (cd_pic cA ad ca0 σ0) sz) ss H locs (cd_pic cA ad ca σ) → lv_has ls 4 [(0, .ref (ad 8 0)), (1, .int l1), (2, .int l2)] → W pp l ee ({ frames := 3, cells := 0, slots := 0, locals := 74 }) ss mm [.ref (ad 8 0), .int a1].toArray bb mt cd H locs 0 0 (MQ bb (hp_Qv D vwCl (hp_Tl cA) sz (cd_pic cA ad ca0 σ0) (fun u => ∃ ca1, cd_inj ad ca1 ∧ u = cd_pic cA ad ca1 p.2)) [.ref (ad 8 0), .int a1].toArray ss 0 0 (hp_A (cd_pic cA ad ca0 σ0) sz)) (F0 mm 60 ls []) := by
        intro ca hj σ l2 H locs ls h hw hl
        refine lv_iinc (v := (l2 + 1)) (lv' := [(2, .int (l2 + 1)), (0, .ref (ad 8 0)), (1, .int l1)]) cx.1 cx.2.1 dX8_findMay_60 hl (k := 2) rfl rfl (by decide) rfl (fun ls hl => ?_)
        refine lv_goto (tgt := 15) cx.1 cx.2.1 dX8_findMay_63 (by decide) ?_
        exact ih _ hj σ l1 ((l2 + 1)) q _ _ _ h hw (lv_sub hl [1, 2, 0] rfl) K
      refine lv_iload_n cx.1 cx.2.1 dX8_findMay_15 rfl (lv_at hl 2 rfl) ?_
      refine lv_aload_n cx.1 cx.2.1 dX8_findMay_16 rfl (lv_at hl 0 rfl) ?_
      refine cd_gO (o2 := 2) (e2 := 0) (o := 8) (k := 0) (f := 256) hj cx hw hic8 rfl ⟨by decide, rfl, by decide, rfl⟩ rfl (by decide) ⟨rfl, rfl⟩ (List.mem_cons_of_mem _ cm_982) dX8_findMay_17 ?_
      refine cd_gI (o := 2) (k := 2) (f := 66) hj cx hw hic2 rfl ⟨by decide, rfl, by decide, rfl⟩ rfl (by decide) (List.mem_cons_of_mem _ cm_983) dX8_findMay_20 ?_
      refine lv_icmp_ge (tgt := 66) cx.1 cx.2.1 dX8_findMay_23 (by decide) (fun c23 => ?_) (fun c23 => ?_)
      · have h := md_ip c23 h
        obtain rfl := Option.some.inj h
        exact K _ hj _ _ _ hw (lv_sub hl [0, 1] rfl)
      · have h := md_in c23 h
        refine lv_aload_n cx.1 cx.2.1 dX8_findMay_26 rfl (lv_at hl 0 rfl) ?_
        refine cd_gO (o2 := 2) (e2 := 0) (o := 8) (k := 0) (f := 256) hj cx hw hic8 rfl ⟨by decide, rfl, by decide, rfl⟩ rfl (by decide) ⟨rfl, rfl⟩ (List.mem_cons_of_mem _ cm_982) dX8_findMay_27 ?_
        refine lv_iload_n cx.1 cx.2.1 dX8_findMay_30 rfl (lv_at hl 2 rfl) ?_
        obtain ⟨p3, e_p3, h⟩ := md_ob h
        refine hp_callVr (As := [.int l2]) (rest := []) cx hw (kc_X2_unitAt l D cA E _ ad _ hj oq sgq sgv hE n σ l2 p3 e_p3) (cwV 1 cx.2.2.2.2.2.1 (cd_giV cm_984 cm_285 cm_286 cm_167 cm_287) rfl rfl rfl hdc_X2_unitAt ⟨Nat.le_of_ble_eq_true rfl, Nat.le_of_ble_eq_true rfl⟩) (cd_atO hj (by decide) (by decide)) rfl rfl hl.1 rfl (Nat.le_of_ble_eq_true rfl) dX8_findMay_31 ⟨Nat.le_refl _, Nat.le_refl _⟩ (fun r u H locs hp hw => ?_)
        obtain ⟨⟨hb_p3, rfl⟩, ca, hj, rfl⟩ := hp
        refine lv_astore_n (lv' := [(3, .ref (ad 9 p3.1)), (0, .ref (ad 8 0)), (1, .int l1), (2, .int l2)]) cx.1 cx.2.1 dX8_findMay_34 rfl hl (by decide) rfl (fun ls hl => ?_)
        refine lv_aload_n cx.1 cx.2.1 dX8_findMay_35 rfl (lv_at hl 0 rfl) ?_
        refine cd_gI (o := 9) (k := 1) (f := 289) hj cx hw hic9 rfl ⟨by decide, rfl, by decide, rfl⟩ rfl (show _ < 60 by omega) (List.mem_cons_of_mem _ cm_1012) dX8_findMay_36 ?_
        refine lv_if_ne (tgt := 60) cx.1 cx.2.1 dX8_findMay_39 (by decide) (fun c39 => ?_) (fun c39 => ?_)
        · have h := md_in c39 h
          exact J60 _ hj p3.2 l2 _ _ _ h hw (lv_sub hl [1, 2, 3] rfl)
        · have h := md_ip c39 h
          refine lv_aload_n cx.1 cx.2.1 dX8_findMay_42 rfl (lv_at hl 0 rfl) ?_
          refine cd_gI (o := 9) (k := 6) (f := 294) hj cx hw hic9 rfl ⟨by decide, rfl, by decide, rfl⟩ rfl (show _ < 60 by omega) (List.mem_cons_of_mem _ cm_1029) dX8_findMay_43 ?_
          refine lv_if_ne (tgt := 60) cx.1 cx.2.1 dX8_findMay_46 (by decide) (fun c46 => ?_) (fun c46 => ?_)
          · have h := md_in c46 h
            exact J60 _ hj p3.2 l2 _ _ _ h hw (lv_sub hl [1, 2, 3] rfl)
          · have h := md_ip c46 h
            refine lv_aload_n cx.1 cx.2.1 dX8_findMay_49 rfl (lv_at hl 1 rfl) ?_
            refine lv_aload_n cx.1 cx.2.1 dX8_findMay_50 rfl (lv_at hl 0 rfl) ?_
            refine lv_iconst (v := 1) cx.1 cx.2.1 dX8_findMay_51 (by decide) ?_
            refine lv_aload_n cx.1 cx.2.1 dX8_findMay_52 rfl (lv_at hl 0 rfl) ?_
            refine lv_iload_n cx.1 cx.2.1 dX8_findMay_53 rfl (lv_at hl 2 rfl) ?_
            obtain ⟨p4, e_p4, h⟩ := md_ob h
            refine hp_callSi (As := [.int 1, .ref (ad 9 p3.1), .int l1]) (rest := [.ref (ad 9 p3.1), .ref (ad 8 0)]) cx hw (kc_X8_meetOf l D cA E _ ad _ hj oq sgq sgv hE n p3.2 (1 : Int32) (p3.1) l1 (show _ < 60 by omega) p4 e_p4) (cwS 3 cx.2.2.2.2.2.1 (cd_giS cm_1005 cm_1006 cm_996 cm_1007) rfl rfl rfl hdc_X8_meetOf ⟨Nat.le_of_ble_eq_true rfl, Nat.le_of_ble_eq_true rfl⟩) rfl hl.1 rfl (Nat.le_of_ble_eq_true rfl) dX8_findMay_54 ⟨Nat.le_refl _, Nat.le_refl _⟩ (fun r u H locs hp hw => ?_)
            obtain ⟨rfl, ca, hj, rfl⟩ := hp
            obtain ⟨p5, e_p5, h⟩ := md_ob h
            refine hp_callVv (As := [.ref (ad 9 p3.1), .int p4.1]) (rest := []) cx hw (kc_X8_addMay l D cA E _ ad _ hj oq sgq sgv hE n p4.2 (p3.1) (p4.1) (show _ < 60 by omega) p5 e_p5) (cwV 2 cx.2.2.2.2.2.1 (cd_giV cm_1008 cm_1009 cm_1010 cm_996 cm_1011) rfl rfl rfl hdc_X8_addMay ⟨Nat.le_of_ble_eq_true rfl, Nat.le_of_ble_eq_true rfl⟩) (cd_atO hj (by decide) (by decide)) rfl rfl hl.1 rfl (Nat.le_of_ble_eq_true rfl) dX8_findMay_57 ⟨Nat.le_refl _, Nat.le_refl _⟩ (fun u H locs hp hw => ?_)
            obtain ⟨ca, hj, rfl⟩ := hp
            exact J60 _ hj p5.2 l2 _ _ _ h hw (lv_sub hl [1, 2, 3] rfl)
  obtain ⟨q6, e_q6, h⟩ := md_ob h
  refine L15 n _ hj σ2 a1 0 q6 _ _ _ e_q6 hw (lv_sub hl [1, 2, 0] rfl) (fun ca hj H locs ls hw hl => ?_)
  refine lv_aload_n cx.1 cx.2.1 dX8_findMay_66 rfl (lv_at hl 0 rfl) ?_
  refine lv_iconst (v := 1) cx.1 cx.2.1 dX8_findMay_67 (by decide) ?_
  obtain ⟨σ7, e_σ7, h⟩ := md_ob h
  refine cd_pZ (o := 8) (k := 3) (f := 259) hj cx hw hic8 rfl ⟨by decide, rfl, by decide, rfl⟩ tyX8_ok nmX8 rfl (by decide) rfl (List.mem_cons_of_mem _ cm_987) rfl (by decide) e_σ7 dX8_findMay_68 (fun H locs hw => ?_)
  refine lv_iconst (v := 0) cx.1 cx.2.1 dX8_findMay_71 (by decide) ?_
  refine lv_istore_n (lv' := [(2, .int 0), (0, .ref (ad 8 0)), (1, .int a1)]) cx.1 cx.2.1 dX8_findMay_72 rfl hl (by decide) rfl (fun ls hl => ?_)
  have L73 : ∀ (j : Nat) (ca : Nat → Nat) (hj : cd_inj ad ca) (σ : cd_S) (l1 : Int32) (l2 : Int32) (q : (cd_S × Int32)) (H : Heap) (locs : List Loc) (ls : Array Slot), f_X8_findMay_L73 n l1 j σ l2 = some q → hp_w D vwCl (hp_Tl cA) E (hp_A (cd_pic cA ad ca0 σ0) sz) ss H locs (cd_pic cA ad ca σ) → lv_has ls 4 [(0, .ref (ad 8 0)), (1, .int l1), (2, .int l2)] → (∀ (ca : Nat → Nat) (hj : cd_inj ad ca) (H : Heap) (locs : List Loc) (ls : Array Slot), hp_w D vwCl (hp_Tl cA) E (hp_A (cd_pic cA ad ca0 σ0) sz) ss H locs (cd_pic cA ad ca q.1) → lv_has ls 4 [(0, .ref (ad 8 0))] → W pp l ee ({ frames := 3, cells := 0, slots := 0, locals := 74 }) ss mm [.ref (ad 8 0), .int a1].toArray bb mt cd H locs 0 0 (MQ bb (hp_Qv D vwCl (hp_Tl cA) sz (cd_pic cA ad ca0 σ0) (fun u => ∃ ca1, cd_inj ad ca1 ∧ u = cd_pic cA ad ca1 p.2)) [.ref (ad 8 0), .int a1].toArray ss 0 0 (hp_A (cd_pic cA ad ca0 σ0) sz)) (F0 mm 137 ls [])) → W pp l ee ({ frames := 3, cells := 0, slots := 0, locals := 74 }) ss mm [.ref (ad 8 0), .int a1].toArray bb mt cd H locs 0 0 (MQ bb (hp_Qv D vwCl (hp_Tl cA) sz (cd_pic cA ad ca0 σ0) (fun u => ∃ ca1, cd_inj ad ca1 ∧ u = cd_pic cA ad ca1 p.2)) [.ref (ad 8 0), .int a1].toArray ss 0 0 (hp_A (cd_pic cA ad ca0 σ0) sz)) (F0 mm 73 ls []) := by
    intro j
    induction j with
    | zero => intro ca hj σ l1 l2 q H locs ls h; exact nomatch h
    | succ j ih =>
      intro ca hj σ l1 l2 q H locs ls h hw hl K
      unfold f_X8_findMay_L73 at h
      refine lv_aload_n cx.1 cx.2.1 dX8_findMay_73 rfl (lv_at hl 0 rfl) ?_
      refine cd_gI (o := 8) (k := 3) (f := 259) hj cx hw hic8 rfl ⟨by decide, rfl, by decide, rfl⟩ rfl (by decide) (List.mem_cons_of_mem _ cm_987) dX8_findMay_74 ?_
      refine lv_if_eq (tgt := 137) cx.1 cx.2.1 dX8_findMay_77 (by decide) (fun c77 => ?_) (fun c77 => ?_)
      · have h := md_ip c77 h
        obtain rfl := Option.some.inj h
        exact K _ hj _ _ _ hw (lv_sub hl [0] rfl)
      · have h := md_in c77 h
        refine lv_iload_n cx.1 cx.2.1 dX8_findMay_80 rfl (lv_at hl 2 rfl) ?_
        refine lv_bipush (v := 122) cx.1 cx.2.1 dX8_findMay_81 (by decide) ?_
        refine lv_icmp_gt (tgt := 137) cx.1 cx.2.1 dX8_findMay_83 (by decide) (fun c83 => ?_) (fun c83 => ?_)
        · have h := md_ip c83 h
          obtain rfl := Option.some.inj h
          exact K _ hj _ _ _ hw (lv_sub hl [0] rfl)
        · have h := md_in c83 h
          refine lv_aload_n cx.1 cx.2.1 dX8_findMay_86 rfl (lv_at hl 0 rfl) ?_
          refine lv_iconst (v := 0) cx.1 cx.2.1 dX8_findMay_87 (by decide) ?_
          obtain ⟨σ8, e_σ8, h⟩ := md_ob h
          refine cd_pZ (o := 8) (k := 3) (f := 259) hj cx hw hic8 rfl ⟨by decide, rfl, by decide, rfl⟩ tyX8_ok nmX8 rfl (by decide) rfl (List.mem_cons_of_mem _ cm_987) rfl (by decide) e_σ8 dX8_findMay_88 (fun H locs hw => ?_)
          refine lv_iconst (v := 0) cx.1 cx.2.1 dX8_findMay_91 (by decide) ?_
          refine lv_istore_n (lv' := [(3, .int 0), (0, .ref (ad 8 0)), (1, .int l1), (2, .int l2)]) cx.1 cx.2.1 dX8_findMay_92 rfl hl (by decide) rfl (fun ls hl => ?_)
          have L93 : ∀ (j : Nat) (ca : Nat → Nat) (hj : cd_inj ad ca) (σ : cd_S) (l1 : Int32) (l2 : Int32) (l3 : Int32) (q : (cd_S × Int32)) (H : Heap) (locs : List Loc) (ls : Array Slot), f_X8_findMay_L93 n l1 l2 j σ l3 = some q → hp_w D vwCl (hp_Tl cA) E (hp_A (cd_pic cA ad ca0 σ0) sz) ss H locs (cd_pic cA ad ca σ) → lv_has ls 4 [(0, .ref (ad 8 0)), (1, .int l1), (2, .int l2), (3, .int l3)] → (∀ (ca : Nat → Nat) (hj : cd_inj ad ca) (H : Heap) (locs : List Loc) (ls : Array Slot), hp_w D vwCl (hp_Tl cA) E (hp_A (cd_pic cA ad ca0 σ0) sz) ss H locs (cd_pic cA ad ca q.1) → lv_has ls 4 [(0, .ref (ad 8 0)), (1, .int l1), (2, .int l2)] → W pp l ee ({ frames := 3, cells := 0, slots := 0, locals := 74 }) ss mm [.ref (ad 8 0), .int a1].toArray bb mt cd H locs 0 0 (MQ bb (hp_Qv D vwCl (hp_Tl cA) sz (cd_pic cA ad ca0 σ0) (fun u => ∃ ca1, cd_inj ad ca1 ∧ u = cd_pic cA ad ca1 p.2)) [.ref (ad 8 0), .int a1].toArray ss 0 0 (hp_A (cd_pic cA ad ca0 σ0) sz)) (F0 mm 131 ls [])) → W pp l ee ({ frames := 3, cells := 0, slots := 0, locals := 74 }) ss mm [.ref (ad 8 0), .int a1].toArray bb mt cd H locs 0 0 (MQ bb (hp_Qv D vwCl (hp_Tl cA) sz (cd_pic cA ad ca0 σ0) (fun u => ∃ ca1, cd_inj ad ca1 ∧ u = cd_pic cA ad ca1 p.2)) [.ref (ad 8 0), .int a1].toArray ss 0 0 (hp_A (cd_pic cA ad ca0 σ0) sz)) (F0 mm 93 ls []) := by
            intro j
            induction j with
            | zero => intro ca hj σ l1 l2 l3 q H locs ls h; exact nomatch h
            | succ j ih =>
              intro ca hj σ l1 l2 l3 q H locs ls h hw hl K
              unfold f_X8_findMay_L93 at h
              have J125 : ∀ (ca : Nat → Nat) (hj : cd_inj ad ca) (σ : cd_S) (l3 : Int32) (H : Heap) (locs : List Loc) (ls : Array Slot), f_X8_findMay_J125 n l1 l2 (f_X8_findMay_L93 n l1 l2 j) σ l3 = some q → hp_w D vwCl (hp_Tl cA) E (hp_A (cd_pic cA ad ca0 σ0) sz) ss H locs (cd_pic cA ad ca σ) → lv_has ls 4 [(0, .ref (ad 8 0)), (1, .int l1), (2, .int l2), (3, .int l3)] → W pp l ee ({ frames := 3, cells := 0, slots := 0, locals := 74 }) ss mm [.ref (ad 8 0), .int a1].toArray bb mt cd H locs 0 0 (MQ bb (hp_Qv D vwCl (hp_Tl cA) sz (cd_pic cA ad ca0 σ0) (fun u => ∃ ca1, cd_inj ad ca1 ∧ u = cd_pic cA ad ca1 p.2)) [.ref (ad 8 0), .int a1].toArray ss 0 0 (hp_A (cd_pic cA ad ca0 σ0) sz)) (F0 mm 125 ls []) := by
                intro ca hj σ l3 H locs ls h hw hl
                refine lv_iinc (v := (l3 + 1)) (lv' := [(3, .int (l3 + 1)), (0, .ref (ad 8 0)), (1, .int l1), (2, .int l2)]) cx.1 cx.2.1 dX8_findMay_125 hl (k := 3) rfl rfl (by decide) rfl (fun ls hl => ?_)
                refine lv_goto (tgt := 93) cx.1 cx.2.1 dX8_findMay_128 (by decide) ?_
                exact ih _ hj σ l1 l2 ((l3 + 1)) q _ _ _ h hw (lv_sub hl [1, 2, 3, 0] rfl) K
              refine lv_iload_n cx.1 cx.2.1 dX8_findMay_93 rfl (lv_at hl 3 rfl) ?_
              refine lv_aload_n cx.1 cx.2.1 dX8_findMay_94 rfl (lv_at hl 0 rfl) ?_
              refine cd_gO (o2 := 2) (e2 := 0) (o := 8) (k := 0) (f := 256) hj cx hw hic8 rfl ⟨by decide, rfl, by decide, rfl⟩ rfl (by decide) ⟨rfl, rfl⟩ (List.mem_cons_of_mem _ cm_982) dX8_findMay_95 ?_
              refine cd_gI (o := 2) (k := 2) (f := 66) hj cx hw hic2 rfl ⟨by decide, rfl, by decide, rfl⟩ rfl (by decide) (List.mem_cons_of_mem _ cm_983) dX8_findMay_98 ?_
              refine lv_icmp_ge (tgt := 131) cx.1 cx.2.1 dX8_findMay_101 (by decide) (fun c101 => ?_) (fun c101 => ?_)
              · have h := md_ip c101 h
                obtain rfl := Option.some.inj h
                exact K _ hj _ _ _ hw (lv_sub hl [0, 1, 2] rfl)
              · have h := md_in c101 h
                refine lv_aload_n cx.1 cx.2.1 dX8_findMay_104 rfl (lv_at hl 0 rfl) ?_
                refine lv_iload_n cx.1 cx.2.1 dX8_findMay_105 rfl (lv_at hl 3 rfl) ?_
                obtain ⟨p9, e_p9, h⟩ := md_ob h
                refine hp_callVi (As := [.int l3]) (rest := []) cx hw (kc_X8_mayOf l D cA E _ ad _ hj oq sgq sgv hE n σ l3 p9 e_p9) (cwV 1 cx.2.2.2.2.2.1 (cd_giV cm_1015 cm_1016 cm_1017 cm_996 cm_1018) rfl rfl rfl hdc_X8_mayOf ⟨Nat.le_of_ble_eq_true rfl, Nat.le_of_ble_eq_true rfl⟩) (cd_atO hj (by decide) (by decide)) rfl rfl hl.1 rfl (Nat.le_of_ble_eq_true rfl) dX8_findMay_106 ⟨Nat.le_refl _, Nat.le_refl _⟩ (fun r u H locs hp hw => ?_)
                obtain ⟨rfl, ca, hj, rfl⟩ := hp
                refine lv_if_eq (tgt := 125) cx.1 cx.2.1 dX8_findMay_109 (by decide) (fun c109 => ?_) (fun c109 => ?_)
                · have h := md_ip c109 h
                  exact J125 _ hj p9.2 l3 _ _ _ h hw (lv_sub hl [0, 1, 2, 3] rfl)
                · have h := md_in c109 h
                  refine lv_aload_n cx.1 cx.2.1 dX8_findMay_112 rfl (lv_at hl 0 rfl) ?_
                  refine lv_aload_n cx.1 cx.2.1 dX8_findMay_113 rfl (lv_at hl 0 rfl) ?_
                  refine cd_gO (o2 := 2) (e2 := 0) (o := 8) (k := 0) (f := 256) hj cx hw hic8 rfl ⟨by decide, rfl, by decide, rfl⟩ rfl (by decide) ⟨rfl, rfl⟩ (List.mem_cons_of_mem _ cm_982) dX8_findMay_114 ?_
                  refine lv_iload_n cx.1 cx.2.1 dX8_findMay_117 rfl (lv_at hl 3 rfl) ?_
                  obtain ⟨p10, e_p10, h⟩ := md_ob h
                  refine hp_callVr (As := [.int l3]) (rest := [.ref (ad 8 0)]) cx hw (kc_X2_unitAt l D cA E _ ad _ hj oq sgq sgv hE n p9.2 l3 p10 e_p10) (cwV 1 cx.2.2.2.2.2.1 (cd_giV cm_984 cm_285 cm_286 cm_167 cm_287) rfl rfl rfl hdc_X2_unitAt ⟨Nat.le_of_ble_eq_true rfl, Nat.le_of_ble_eq_true rfl⟩) (cd_atO hj (by decide) (by decide)) rfl rfl hl.1 rfl (Nat.le_of_ble_eq_true rfl) dX8_findMay_118 ⟨Nat.le_refl _, Nat.le_refl _⟩ (fun r u H locs hp hw => ?_)
                  obtain ⟨⟨hb_p10, rfl⟩, ca, hj, rfl⟩ := hp
                  refine lv_iload_n cx.1 cx.2.1 dX8_findMay_121 rfl (lv_at hl 1 rfl) ?_
                  obtain ⟨p11, e_p11, h⟩ := md_ob h
                  refine hp_callVv (As := [.ref (ad 9 p10.1), .int l1]) (rest := []) cx hw (kc_X8_spread l D cA E _ ad _ hj oq sgq sgv hE n p10.2 (p10.1) l1 (show _ < 60 by omega) p11 e_p11) (cwV 2 cx.2.2.2.2.2.1 (cd_giV cm_1030 cm_1031 cm_1032 cm_996 cm_1033) rfl rfl rfl hdc_X8_spread ⟨Nat.le_of_ble_eq_true rfl, Nat.le_of_ble_eq_true rfl⟩) (cd_atO hj (by decide) (by decide)) rfl rfl hl.1 rfl (Nat.le_of_ble_eq_true rfl) dX8_findMay_122 ⟨Nat.le_refl _, Nat.le_refl _⟩ (fun u H locs hp hw => ?_)
                  obtain ⟨ca, hj, rfl⟩ := hp
                  exact J125 _ hj p11.2 l3 _ _ _ h hw (lv_sub hl [0, 1, 2, 3] rfl)
          obtain ⟨q12, e_q12, h⟩ := md_ob h
          refine L93 n _ hj σ8 l1 l2 0 q12 _ _ _ e_q12 hw (lv_sub hl [1, 2, 3, 0] rfl) (fun ca hj H locs ls hw hl => ?_)
          refine lv_iinc (v := (l2 + 1)) (lv' := [(2, .int (l2 + 1)), (0, .ref (ad 8 0)), (1, .int l1)]) cx.1 cx.2.1 dX8_findMay_131 hl (k := 2) rfl rfl (by decide) rfl (fun ls hl => ?_)
          refine lv_goto (tgt := 73) cx.1 cx.2.1 dX8_findMay_134 (by decide) ?_
          exact ih _ hj q12.1 l1 ((l2 + 1)) q _ _ _ h hw (lv_sub hl [1, 2, 0] rfl) K
  obtain ⟨q13, e_q13, h⟩ := md_ob h
  refine L73 n _ hj σ7 a1 0 q13 _ _ _ e_q13 hw (lv_sub hl [1, 2, 0] rfl) (fun ca hj H locs ls hw hl => ?_)
  refine lv_aload_n cx.1 cx.2.1 dX8_findMay_137 rfl (lv_at hl 0 rfl) ?_
  refine lv_iconst (v := 1) cx.1 cx.2.1 dX8_findMay_138 (by decide) ?_
  obtain ⟨σ14, e_σ14, h⟩ := md_ob h
  refine cd_pZ (o := 8) (k := 4) (f := 260) hj cx hw hic8 rfl ⟨by decide, rfl, by decide, rfl⟩ tyX8_ok nmX8 rfl (by decide) rfl (List.mem_cons_of_mem _ cm_981) rfl (by decide) e_σ14 dX8_findMay_139 (fun H locs hw => ?_)
  exact hp_vret cx hw ((cd_ret hj h).2) dX8_findMay_142
