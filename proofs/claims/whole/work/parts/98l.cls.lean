set_option maxHeartbeats 4000000 in
set_option maxRecDepth 100000 in
theorem kc_X4_readComparison (l : Launch) (D : va_G) (cA : Nat → ClassId) (E : hp_N) (sz : Nat) (ad : Nat → Nat → Nat) (ca0 : Nat → Nat) (hj : cd_inj ad ca0) (oq sgq sgv : Nat) (hE : cd_E E oq sgq sgv) (n d : Nat) (rec : cd_R) (in6 : ∀ (sz : Nat) (ca : Nat → Nat) (_ : cd_inj ad ca) (σ : cd_S) (b : cd_B) (a1 : Int32) (p : Int32 × cd_S × cd_B), rec 6 0 a1 0 σ b = some (Sum.inl p) → (p.2.2.1 ≤ b.1 ∧ p.2.2.2 ≤ b.2) ∧ Met l yX4_readSum (Cond.code yX4_readSum cX4_readSum 4 none :: v_CLS) ({ frames := d + 16, cells := b.1 - p.2.2.1, slots := b.2 - p.2.2.2, locals := 26 * d + 286 }) (hp_Pc D vwCl (hp_Tl cA) E sz (cd_pic cA ad ca σ) [.ref (ad 4 0), .int a1]) (hp_Qv D vwCl (hp_Tl cA) sz (cd_pic cA ad ca σ) (fun u => ∃ ca1, cd_inj ad ca1 ∧ u = cd_pic cA ad ca1 p.2.1)) (b.1 - p.2.2.1) (b.2 - p.2.2.2) (hp_A (cd_pic cA ad ca σ) sz)) (σ0 : cd_S) (b0 : cd_B) (a1 : Int32) (p : (Int32 × cd_S × cd_B)) (h : f_X4_readComparison n rec σ0 b0 a1 = some (Sum.inl p)) : (p.2.2.1 ≤ b0.1 ∧ p.2.2.2 ≤ b0.2) ∧ Met l yX4_readComparison (Cond.code yX4_readComparison cX4_readComparison 3 none :: v_CLS) ({ frames := (d + 1) + 16, cells := b0.1 - p.2.2.1, slots := b0.2 - p.2.2.2, locals := 26 * (d + 1) + 286 }) (hp_Pc D vwCl (hp_Tl cA) E sz (cd_pic cA ad ca0 σ0) [.ref (ad 4 0), .int a1]) (hp_Qv D vwCl (hp_Tl cA) sz (cd_pic cA ad ca0 σ0) (fun u => ∃ ca1, cd_inj ad ca1 ∧ u = cd_pic cA ad ca1 p.2.1)) (b0.1 - p.2.2.1) (b0.2 - p.2.2.2) (hp_A (cd_pic cA ad ca0 σ0) sz) := by
  obtain ⟨hm0, hn0, h⟩ := cd_cks h
  have hM0 : p.2.2.1 ≤ b0.1 ∧ p.2.2.2 ≤ b0.2 := ⟨hm0, hn0⟩
  refine ⟨hM0, ?_⟩
  refine hp_ofW (cc := cX4_readComparison) (maxL := 3) (ret := none) (by decide) rfl (Nat.le_of_ble_eq_true rfl) ?_
  intro pp ee ss mm bb mt cd ls cx hsz hw hl
  have hl : lv_has ls 3 [(0, .ref (ad 4 0)), (1, .int a1)] := hl
  refine W.widen (k := b0.1 - b0.1) (n := b0.2 - b0.2) (Nat.zero_le _) (Nat.zero_le _) ?_
  have J49 : ∀ (ca : Nat → Nat) (hj : cd_inj ad ca) (σ : cd_S) (b : cd_B) (l1 : Int32) (t0 : Int32) (H : Heap) (locs : List Loc) (ls : Array Slot), b.1 ≤ b0.1 → b.2 ≤ b0.2 → p.2.2.1 ≤ b.1 → p.2.2.2 ≤ b.2 → f_X4_readComparison_J49 n rec σ b l1 t0 = some (Sum.inl p) → hp_w D vwCl (hp_Tl cA) E (hp_A (cd_pic cA ad ca0 σ0) sz) ss H locs (cd_pic cA ad ca σ) → lv_has ls 3 [(0, .ref (ad 4 0)), (1, .int l1)] → W pp l ee ({ frames := (d + 1) + 16, cells := b0.1 - p.2.2.1, slots := b0.2 - p.2.2.2, locals := 26 * (d + 1) + 286 }) ss mm [.ref (ad 4 0), .int a1].toArray bb mt cd H locs (b0.1 - b.1) (b0.2 - b.2) (MQ bb (hp_Qv D vwCl (hp_Tl cA) sz (cd_pic cA ad ca0 σ0) (fun u => ∃ ca1, cd_inj ad ca1 ∧ u = cd_pic cA ad ca1 p.2.1)) [.ref (ad 4 0), .int a1].toArray ss (b0.1 - p.2.2.1) (b0.2 - p.2.2.2) (hp_A (cd_pic cA ad ca0 σ0) sz)) (F0 mm 49 ls [.int t0]) := by
    intro ca hj σ b l1 t0 H locs ls hb1 hb2 hf1 hf2 h hw hl
    refine lv_istore_n (lv' := [(2, .int t0), (0, .ref (ad 4 0)), (1, .int l1)]) cx.1 cx.2.1 dX4_readComparison_49 rfl hl (by decide) rfl (fun ls hl => ?_)
    refine lv_aload_n cx.1 cx.2.1 dX4_readComparison_50 rfl (lv_at hl 1 rfl) ?_
    obtain ⟨q1, e_q1, h⟩ := md_ob h
    obtain ⟨hm2, hn2, h⟩ := cd_cks h
    have hM2 : p.2.2.1 ≤ (Sum.elim (fun (p : Int32 × cd_S × cd_B) => p.2.2) (fun (t : cd_S × cd_B) => t.2) q1).1 ∧ p.2.2.2 ≤ (Sum.elim (fun (p : Int32 × cd_S × cd_B) => p.2.2) (fun (t : cd_S × cd_B) => t.2) q1).2 := ⟨hm2, hn2⟩
    cases q1 with
    | inr t1 =>
      exact nomatch Option.some.inj h
    | inl p1 =>
      have hle1 := (kc_X4_part l D cA E sz ad _ hj oq sgq sgv hE n σ b  p1 e_q1).1
      have hM10002 : p.2.2.1 ≤ p1.2.2.1 ∧ p.2.2.2 ≤ p1.2.2.2 := hM2
      have h := cd_inl h
      refine hp_callVv (As := []) (rest := []) cx hw ((kc_X4_part l D cA E _ ad _ hj oq sgq sgv hE n σ b  p1 e_q1).2) (cwV 0 cx.2.2.2.2.2.1 (cd_giV cm_764 cm_765 cm_766 cm_663 cm_767) rfl rfl rfl hdc_X4_part ⟨by (try dsimp only); omega, by (try dsimp only); omega⟩) (cd_atO hj (by decide) (by decide)) rfl rfl hl.1 rfl (Nat.le_of_ble_eq_true rfl) dX4_readComparison_51 ⟨by (try dsimp only); omega, by (try dsimp only); omega⟩ (fun u H locs hp hw => ?_)
      obtain ⟨ca, hj, rfl⟩ := hp
      refine W.widen (k := b0.1 - p1.2.2.1) (n := b0.2 - p1.2.2.2) (by omega) (by omega) ?_
      refine lv_aload_n cx.1 cx.2.1 dX4_readComparison_54 rfl (lv_at hl 1 rfl) ?_
      refine cd_gO (o2 := 10) (e2 := 0) (o := 4) (k := 0) (f := 128) hj cx hw hic4 rfl ⟨by decide, rfl, by decide, rfl⟩ rfl (by decide) ⟨rfl, rfl⟩ (List.mem_cons_of_mem _ cm_658) dX4_readComparison_55 ?_
      obtain ⟨p3, e_p3, h⟩ := md_ob h
      refine hp_callVv (As := []) (rest := []) cx hw (kc_X10_advance l D cA E _ ad _ hj oq sgq sgv hE n p1.2.1  p3 e_p3) (cwV 0 cx.2.2.2.2.2.1 (cd_giV cm_670 cm_671 cm_672 cm_301 cm_673) rfl rfl rfl hdc_X10_advance ⟨by (try dsimp only); omega, by (try dsimp only); omega⟩) (cd_atO hj (by decide) (by decide)) rfl rfl hl.1 rfl (Nat.le_of_ble_eq_true rfl) dX4_readComparison_58 ⟨by (try dsimp only); omega, by (try dsimp only); omega⟩ (fun u H locs hp hw => ?_)
      obtain ⟨ca, hj, rfl⟩ := hp
      refine lv_aload_n cx.1 cx.2.1 dX4_readComparison_61 rfl (lv_at hl 1 rfl) ?_
      refine lv_iload_n cx.1 cx.2.1 dX4_readComparison_62 rfl (lv_at hl 2 rfl) ?_
      obtain ⟨q4, e_q4, h⟩ := md_ob h
      obtain ⟨hm5, hn5, h⟩ := cd_cks h
      have hM5 : p.2.2.1 ≤ (Sum.elim (fun (p : Int32 × cd_S × cd_B) => p.2.2) (fun (t : cd_S × cd_B) => t.2) q4).1 ∧ p.2.2.2 ≤ (Sum.elim (fun (p : Int32 × cd_S × cd_B) => p.2.2) (fun (t : cd_S × cd_B) => t.2) q4).2 := ⟨hm5, hn5⟩
      cases q4 with
      | inr t4 =>
        exact nomatch Option.some.inj h
      | inl p4 =>
        have hle4 := (in6 sz _ hj p3.2 (p1.2.2) l1 p4 e_q4).1
        have hM10005 : p.2.2.1 ≤ p4.2.2.1 ∧ p.2.2.2 ≤ p4.2.2.2 := hM5
        have h := cd_inl h
        refine hp_callVv (As := [.int l1]) (rest := []) cx hw ((in6 _ _ hj p3.2 (p1.2.2) l1 p4 e_q4).2) (cwV 1 cx.2.2.2.2.2.1 (cd_giV cm_918 cm_919 cm_920 cm_663 cm_921) rfl rfl rfl hdc_X4_readSum ⟨by (try dsimp only); omega, by (try dsimp only); omega⟩) (cd_atO hj (by decide) (by decide)) rfl rfl hl.1 rfl (Nat.le_of_ble_eq_true rfl) dX4_readComparison_63 ⟨by (try dsimp only); omega, by (try dsimp only); omega⟩ (fun u H locs hp hw => ?_)
        obtain ⟨ca, hj, rfl⟩ := hp
        refine W.widen (k := b0.1 - p4.2.2.1) (n := b0.2 - p4.2.2.2) (by omega) (by omega) ?_
        refine lv_aload_n cx.1 cx.2.1 dX4_readComparison_66 rfl (lv_at hl 1 rfl) ?_
        obtain ⟨u6, e_u6, h⟩ := md_ob h
        have hb_u6 : u6 < 60 := (cd_dps e_u6).2
        refine cd_gP (o2 := 9) (u := u6) (o := 4) (k := 8) (f := 136) hj cx hw hic4 rfl ⟨by decide, rfl, by decide, rfl⟩ rfl (by decide) rfl e_u6 (List.mem_cons_of_mem _ cm_749) dX4_readComparison_67 ?_
        refine lv_iload_n cx.1 cx.2.1 dX4_readComparison_70 rfl (lv_at hl 0 rfl) ?_
        refine lv_iconst (v := 0) cx.1 cx.2.1 dX4_readComparison_71 (by decide) ?_
        refine lv_iconst (v := 0) cx.1 cx.2.1 dX4_readComparison_72 (by decide) ?_
        obtain ⟨p7, e_p7, h⟩ := md_ob h
        obtain ⟨hm8, hn8, h⟩ := cd_cks h
        have hM8 : p.2.2.1 ≤ p7.2.2.1 ∧ p.2.2.2 ≤ p7.2.2.2 := ⟨hm8, hn8⟩
        have hle7 := (kc_X9_emit l D cA E sz ad _ hj oq sgq sgv hE n p4.2.1 (p4.2.2) u6 t0 (0 : Int32) (0 : Int32) (show _ < 60 by omega) p7 e_p7).1
        refine hp_callVv (As := [.int t0, .int 0, .int 0]) (rest := []) cx hw ((kc_X9_emit l D cA E _ ad _ hj oq sgq sgv hE n p4.2.1 (p4.2.2) u6 t0 (0 : Int32) (0 : Int32) (show _ < 60 by omega) p7 e_p7).2) (cwV 3 cx.2.2.2.2.2.1 (cd_giV cm_781 cm_782 cm_783 cm_114 cm_784) rfl rfl rfl hdc_X9_emit ⟨by (try dsimp only); omega, by (try dsimp only); omega⟩) (cd_atO hj (by decide) (show _ < 60 by omega)) rfl rfl hl.1 rfl (Nat.le_of_ble_eq_true rfl) dX4_readComparison_73 ⟨by (try dsimp only); omega, by (try dsimp only); omega⟩ (fun u H locs hp hw => ?_)
        obtain ⟨ca, hj, rfl⟩ := hp
        refine W.widen (k := b0.1 - p7.2.2.1) (n := b0.2 - p7.2.2.2) (by omega) (by omega) ?_
        exact hp_vret cx hw ((cd_retb hj (congrArg some (Sum.inl.inj (Option.some.inj h)))).2) dX4_readComparison_76 (cd_le1 (congrArg some (Sum.inl.inj (Option.some.inj h)))) (cd_le2 (congrArg some (Sum.inl.inj (Option.some.inj h))))
  have J30 : ∀ (ca : Nat → Nat) (hj : cd_inj ad ca) (σ : cd_S) (b : cd_B) (l1 : Int32) (H : Heap) (locs : List Loc) (ls : Array Slot), b.1 ≤ b0.1 → b.2 ≤ b0.2 → p.2.2.1 ≤ b.1 → p.2.2.2 ≤ b.2 → f_X4_readComparison_J30 n rec σ b l1 = some (Sum.inl p) → hp_w D vwCl (hp_Tl cA) E (hp_A (cd_pic cA ad ca0 σ0) sz) ss H locs (cd_pic cA ad ca σ) → lv_has ls 3 [(0, .ref (ad 4 0)), (1, .int l1)] → W pp l ee ({ frames := (d + 1) + 16, cells := b0.1 - p.2.2.1, slots := b0.2 - p.2.2.2, locals := 26 * (d + 1) + 286 }) ss mm [.ref (ad 4 0), .int a1].toArray bb mt cd H locs (b0.1 - b.1) (b0.2 - b.2) (MQ bb (hp_Qv D vwCl (hp_Tl cA) sz (cd_pic cA ad ca0 σ0) (fun u => ∃ ca1, cd_inj ad ca1 ∧ u = cd_pic cA ad ca1 p.2.1)) [.ref (ad 4 0), .int a1].toArray ss (b0.1 - p.2.2.1) (b0.2 - p.2.2.2) (hp_A (cd_pic cA ad ca0 σ0) sz)) (F0 mm 30 ls []) := by
    intro ca hj σ b l1 H locs ls hb1 hb2 hf1 hf2 h hw hl
    refine lv_aload_n cx.1 cx.2.1 dX4_readComparison_30 rfl (lv_at hl 0 rfl) ?_
    refine cd_gO (o2 := 10) (e2 := 0) (o := 4) (k := 0) (f := 128) hj cx hw hic4 rfl ⟨by decide, rfl, by decide, rfl⟩ rfl (by decide) ⟨rfl, rfl⟩ (List.mem_cons_of_mem _ cm_658) dX4_readComparison_31 ?_
    refine cd_gI (o := 10) (k := 8) (f := 328) hj cx hw hic10 rfl ⟨by decide, rfl, by decide, rfl⟩ rfl (by decide) (List.mem_cons_of_mem _ cm_665) dX4_readComparison_34 ?_
    refine lv_bipush (v := 60) cx.1 cx.2.1 dX4_readComparison_37 (by decide) ?_
    refine lv_icmp_ne (tgt := 47) cx.1 cx.2.1 dX4_readComparison_39 (by decide) (fun c39 => ?_) (fun c39 => ?_)
    · have h := md_in c39 h
      refine lv_bipush (v := 15) cx.1 cx.2.1 dX4_readComparison_47 (by decide) ?_
      exact J49 _ hj σ b l1 15 _ _ _ (by omega) (by omega) (by omega) (by omega) h hw (lv_sub hl [0, 1] rfl)
    · have h := md_ip c39 h
      refine lv_bipush (v := 14) cx.1 cx.2.1 dX4_readComparison_42 (by decide) ?_
      refine lv_goto (tgt := 49) cx.1 cx.2.1 dX4_readComparison_44 (by decide) ?_
      exact J49 _ hj σ b l1 14 _ _ _ (by omega) (by omega) (by omega) (by omega) h hw (lv_sub hl [0, 1] rfl)
  refine lv_aload_n cx.1 cx.2.1 dX4_readComparison_0 rfl (lv_at hl 0 rfl) ?_
  refine lv_iload_n cx.1 cx.2.1 dX4_readComparison_1 rfl (lv_at hl 1 rfl) ?_
  obtain ⟨q9, e_q9, h⟩ := md_ob h
  obtain ⟨hm10, hn10, h⟩ := cd_cks h
  have hM10 : p.2.2.1 ≤ (Sum.elim (fun (p : Int32 × cd_S × cd_B) => p.2.2) (fun (t : cd_S × cd_B) => t.2) q9).1 ∧ p.2.2.2 ≤ (Sum.elim (fun (p : Int32 × cd_S × cd_B) => p.2.2) (fun (t : cd_S × cd_B) => t.2) q9).2 := ⟨hm10, hn10⟩
  cases q9 with
  | inr t9 =>
    exact nomatch Option.some.inj h
  | inl p9 =>
    have hle9 := (in6 sz _ hj σ0 b0 a1 p9 e_q9).1
    have hM10010 : p.2.2.1 ≤ p9.2.2.1 ∧ p.2.2.2 ≤ p9.2.2.2 := hM10
    have h := cd_inl h
    refine hp_callVv (As := [.int a1]) (rest := []) cx hw ((in6 _ _ hj σ0 b0 a1 p9 e_q9).2) (cwV 1 cx.2.2.2.2.2.1 (cd_giV cm_918 cm_919 cm_920 cm_663 cm_921) rfl rfl rfl hdc_X4_readSum ⟨by (try dsimp only); omega, by (try dsimp only); omega⟩) (cd_atO hj (by decide) (by decide)) rfl rfl hl.1 rfl (Nat.le_of_ble_eq_true rfl) dX4_readComparison_2 ⟨by (try dsimp only); omega, by (try dsimp only); omega⟩ (fun u H locs hp hw => ?_)
    obtain ⟨ca, hj, rfl⟩ := hp
    refine W.widen (k := b0.1 - p9.2.2.1) (n := b0.2 - p9.2.2.2) (by omega) (by omega) ?_
    refine lv_aload_n cx.1 cx.2.1 dX4_readComparison_5 rfl (lv_at hl 0 rfl) ?_
    refine cd_gO (o2 := 10) (e2 := 0) (o := 4) (k := 0) (f := 128) hj cx hw hic4 rfl ⟨by decide, rfl, by decide, rfl⟩ rfl (by decide) ⟨rfl, rfl⟩ (List.mem_cons_of_mem _ cm_658) dX4_readComparison_6 ?_
    refine cd_gI (o := 10) (k := 8) (f := 328) hj cx hw hic10 rfl ⟨by decide, rfl, by decide, rfl⟩ rfl (by decide) (List.mem_cons_of_mem _ cm_665) dX4_readComparison_9 ?_
    refine lv_bipush (v := 60) cx.1 cx.2.1 dX4_readComparison_12 (by decide) ?_
    refine lv_icmp_eq (tgt := 30) cx.1 cx.2.1 dX4_readComparison_14 (by decide) (fun c14 => ?_) (fun c14 => ?_)
    · have h := md_ip c14 h
      exact J30 _ hj p9.2.1 (p9.2.2) a1 _ _ _ (by omega) (by omega) (by omega) (by omega) h hw (lv_sub hl [0, 1] rfl)
    · have h := md_in c14 h
      refine lv_aload_n cx.1 cx.2.1 dX4_readComparison_17 rfl (lv_at hl 0 rfl) ?_
      refine cd_gO (o2 := 10) (e2 := 0) (o := 4) (k := 0) (f := 128) hj cx hw hic4 rfl ⟨by decide, rfl, by decide, rfl⟩ rfl (by decide) ⟨rfl, rfl⟩ (List.mem_cons_of_mem _ cm_658) dX4_readComparison_18 ?_
      refine cd_gI (o := 10) (k := 8) (f := 328) hj cx hw hic10 rfl ⟨by decide, rfl, by decide, rfl⟩ rfl (by decide) (List.mem_cons_of_mem _ cm_665) dX4_readComparison_21 ?_
      refine lv_sipush (v := 201) cx.1 cx.2.1 dX4_readComparison_24 (by decide) ?_
      refine lv_icmp_ne (tgt := 76) cx.1 cx.2.1 dX4_readComparison_27 (by decide) (fun c27 => ?_) (fun c27 => ?_)
      · have h := md_in c27 h
        exact hp_vret cx hw ((cd_retb hj (congrArg some (Sum.inl.inj (Option.some.inj h)))).2) dX4_readComparison_76 (cd_le1 (congrArg some (Sum.inl.inj (Option.some.inj h)))) (cd_le2 (congrArg some (Sum.inl.inj (Option.some.inj h))))
      · have h := md_ip c27 h
        exact J30 _ hj p9.2.1 (p9.2.2) a1 _ _ _ (by omega) (by omega) (by omega) (by omega) h hw (lv_sub hl [0, 1] rfl)
set_option maxHeartbeats 4000000 in
set_option maxRecDepth 100000 in
theorem kc_X9_addLabel (l : Launch) (D : va_G) (cA : Nat → ClassId) (E : hp_N) (sz : Nat) (ad : Nat → Nat → Nat) (ca0 : Nat → Nat) (hj : cd_inj ad ca0) (oq sgq sgv : Nat) (hE : cd_E E oq sgq sgv) (n : Nat) (σ0 : cd_S) (a0 : Nat) (hb_a0 : a0 < 60) (p : (Int32 × cd_S)) (h : f_X9_addLabel n σ0 a0 = some p) : Met l yX9_addLabel (Cond.code yX9_addLabel cX9_addLabel 1 (some .int) :: v_CLS) ({ frames := 0, cells := 0, slots := 0, locals := 0 }) (hp_Pc D vwCl (hp_Tl cA) E sz (cd_pic cA ad ca0 σ0) [.ref (ad 9 a0)]) (hp_Qi D vwCl (hp_Tl cA) sz (cd_pic cA ad ca0 σ0) (fun r u => r = p.1 ∧ ∃ ca1, cd_inj ad ca1 ∧ u = cd_pic cA ad ca1 p.2)) 0 0 (hp_A (cd_pic cA ad ca0 σ0) sz) := by
  refine hp_ofW (cc := cX9_addLabel) (maxL := 1) (ret := (some .int)) (by decide) rfl (Nat.le_of_ble_eq_true rfl) ?_
  intro pp ee ss mm bb mt cd ls cx hsz hw hl
  have hl : lv_has ls 1 [(0, .ref (ad 9 a0))] := hl
  refine lv_aload_n cx.1 cx.2.1 dX9_addLabel_0 rfl (lv_at hl 0 rfl) ?_
  refine lv_dup cx.1 cx.2.1 dX9_addLabel_1 rfl ?_
  refine cd_gI (o := 9) (k := 14) (f := 302) hj cx hw hic9 rfl ⟨by decide, rfl, by decide, rfl⟩ rfl (show _ < 60 by omega) (List.mem_cons_of_mem _ cm_542) dX9_addLabel_2 ?_
  refine lv_iconst (v := 1) cx.1 cx.2.1 dX9_addLabel_5 (by decide) ?_
  refine lv_iadd cx.1 cx.2.1 dX9_addLabel_6 ?_
  obtain ⟨σ1, e_σ1, h⟩ := md_ob h
  refine cd_pI (o := 9) (k := 14) (f := 302) hj cx hw hic9 rfl ⟨by decide, rfl, by decide, rfl⟩ tyX9_ok nmX9 rfl (show _ < 60 by omega) rfl (List.mem_cons_of_mem _ cm_542) rfl e_σ1 dX9_addLabel_7 (fun H locs hw => ?_)
  refine lv_aload_n cx.1 cx.2.1 dX9_addLabel_10 rfl (lv_at hl 0 rfl) ?_
  refine cd_gI (o := 9) (k := 14) (f := 302) hj cx hw hic9 rfl ⟨by decide, rfl, by decide, rfl⟩ rfl (show _ < 60 by omega) (List.mem_cons_of_mem _ cm_542) dX9_addLabel_11 ?_
  refine lv_iconst (v := 1) cx.1 cx.2.1 dX9_addLabel_14 (by decide) ?_
  refine lv_isub cx.1 cx.2.1 dX9_addLabel_15 ?_
  exact hp_iret cx hw (cd_ret hj h) dX9_addLabel_16
set_option maxHeartbeats 4000000 in
set_option maxRecDepth 100000 in
theorem kc_X4_readIf (l : Launch) (D : va_G) (cA : Nat → ClassId) (E : hp_N) (sz : Nat) (ad : Nat → Nat → Nat) (ca0 : Nat → Nat) (hj : cd_inj ad ca0) (oq sgq sgv : Nat) (hE : cd_E E oq sgq sgv) (n d : Nat) (rec : cd_R) (in0 : ∀ (sz : Nat) (ca : Nat → Nat) (_ : cd_inj ad ca) (σ : cd_S) (b : cd_B) (a1 : Int32) (p : Int32 × cd_S × cd_B), rec 0 0 a1 0 σ b = some (Sum.inl p) → (p.2.2.1 ≤ b.1 ∧ p.2.2.2 ≤ b.2) ∧ Met l yX4_readExpression (Cond.code yX4_readExpression cX4_readExpression 2 none :: v_CLS) ({ frames := d + 16, cells := b.1 - p.2.2.1, slots := b.2 - p.2.2.2, locals := 26 * d + 286 }) (hp_Pc D vwCl (hp_Tl cA) E sz (cd_pic cA ad ca σ) [.ref (ad 4 0), .int a1]) (hp_Qv D vwCl (hp_Tl cA) sz (cd_pic cA ad ca σ) (fun u => ∃ ca1, cd_inj ad ca1 ∧ u = cd_pic cA ad ca1 p.2.1)) (b.1 - p.2.2.1) (b.2 - p.2.2.2) (hp_A (cd_pic cA ad ca σ) sz)) (σ0 : cd_S) (b0 : cd_B) (a1 : Int32) (p : (Int32 × cd_S × cd_B)) (h : f_X4_readIf n rec σ0 b0 a1 = some (Sum.inl p)) : (p.2.2.1 ≤ b0.1 ∧ p.2.2.2 ≤ b0.2) ∧ Met l yX4_readIf (Cond.code yX4_readIf cX4_readIf 4 none :: v_CLS) ({ frames := (d + 1) + 16, cells := b0.1 - p.2.2.1, slots := b0.2 - p.2.2.2, locals := 26 * (d + 1) + 286 }) (hp_Pc D vwCl (hp_Tl cA) E sz (cd_pic cA ad ca0 σ0) [.ref (ad 4 0), .int a1]) (hp_Qv D vwCl (hp_Tl cA) sz (cd_pic cA ad ca0 σ0) (fun u => ∃ ca1, cd_inj ad ca1 ∧ u = cd_pic cA ad ca1 p.2.1)) (b0.1 - p.2.2.1) (b0.2 - p.2.2.2) (hp_A (cd_pic cA ad ca0 σ0) sz) := by
  obtain ⟨hm0, hn0, h⟩ := cd_cks h
  have hM0 : p.2.2.1 ≤ b0.1 ∧ p.2.2.2 ≤ b0.2 := ⟨hm0, hn0⟩
  refine ⟨hM0, ?_⟩
  refine hp_ofW (cc := cX4_readIf) (maxL := 4) (ret := none) (by decide) rfl (Nat.le_of_ble_eq_true rfl) ?_
  intro pp ee ss mm bb mt cd ls cx hsz hw hl
  have hl : lv_has ls 4 [(0, .ref (ad 4 0)), (1, .int a1)] := hl
  refine W.widen (k := b0.1 - b0.1) (n := b0.2 - b0.2) (Nat.zero_le _) (Nat.zero_le _) ?_
  refine lv_aload_n cx.1 cx.2.1 dX4_readIf_0 rfl (lv_at hl 0 rfl) ?_
  obtain ⟨q1, e_q1, h⟩ := md_ob h
  obtain ⟨hm2, hn2, h⟩ := cd_cks h
  have hM2 : p.2.2.1 ≤ (Sum.elim (fun (p : Int32 × cd_S × cd_B) => p.2.2) (fun (t : cd_S × cd_B) => t.2) q1).1 ∧ p.2.2.2 ≤ (Sum.elim (fun (p : Int32 × cd_S × cd_B) => p.2.2) (fun (t : cd_S × cd_B) => t.2) q1).2 := ⟨hm2, hn2⟩
  cases q1 with
  | inr t1 =>
    exact nomatch Option.some.inj h
  | inl p1 =>
    have hle1 := (kc_X4_part l D cA E sz ad _ hj oq sgq sgv hE n σ0 b0  p1 e_q1).1
    have hM10002 : p.2.2.1 ≤ p1.2.2.1 ∧ p.2.2.2 ≤ p1.2.2.2 := hM2
    have h := cd_inl h
    refine hp_callVv (As := []) (rest := []) cx hw ((kc_X4_part l D cA E _ ad _ hj oq sgq sgv hE n σ0 b0  p1 e_q1).2) (cwV 0 cx.2.2.2.2.2.1 (cd_giV cm_764 cm_765 cm_766 cm_663 cm_767) rfl rfl rfl hdc_X4_part ⟨by (try dsimp only); omega, by (try dsimp only); omega⟩) (cd_atO hj (by decide) (by decide)) rfl rfl hl.1 rfl (Nat.le_of_ble_eq_true rfl) dX4_readIf_1 ⟨by (try dsimp only); omega, by (try dsimp only); omega⟩ (fun u H locs hp hw => ?_)
    obtain ⟨ca, hj, rfl⟩ := hp
    refine W.widen (k := b0.1 - p1.2.2.1) (n := b0.2 - p1.2.2.2) (by omega) (by omega) ?_
    refine lv_aload_n cx.1 cx.2.1 dX4_readIf_4 rfl (lv_at hl 0 rfl) ?_
    obtain ⟨u3, e_u3, h⟩ := md_ob h
    have hb_u3 : u3 < 60 := (cd_dps e_u3).2
    refine cd_gP (o2 := 9) (u := u3) (o := 4) (k := 8) (f := 136) hj cx hw hic4 rfl ⟨by decide, rfl, by decide, rfl⟩ rfl (by decide) rfl e_u3 (List.mem_cons_of_mem _ cm_749) dX4_readIf_5 ?_
    obtain ⟨p4, e_p4, h⟩ := md_ob h
    refine hp_callVi (As := []) (rest := []) cx hw (kc_X9_addLabel l D cA E _ ad _ hj oq sgq sgv hE n p1.2.1 u3 (show _ < 60 by omega) p4 e_p4) (cwV 0 cx.2.2.2.2.2.1 (cd_giV cm_922 cm_923 cm_924 cm_114 cm_925) rfl rfl rfl hdc_X9_addLabel ⟨by (try dsimp only); omega, by (try dsimp only); omega⟩) (cd_atO hj (by decide) (show _ < 60 by omega)) rfl rfl hl.1 rfl (Nat.le_of_ble_eq_true rfl) dX4_readIf_8 ⟨by (try dsimp only); omega, by (try dsimp only); omega⟩ (fun r u H locs hp hw => ?_)
    obtain ⟨rfl, ca, hj, rfl⟩ := hp
    refine lv_istore_n (lv' := [(2, .int p4.1), (0, .ref (ad 4 0)), (1, .int a1)]) cx.1 cx.2.1 dX4_readIf_11 rfl hl (by decide) rfl (fun ls hl => ?_)
    refine lv_aload_n cx.1 cx.2.1 dX4_readIf_12 rfl (lv_at hl 1 rfl) ?_
    obtain ⟨u5, e_u5, h⟩ := md_ob h
    have hb_u5 : u5 < 60 := (cd_dps e_u5).2
    refine cd_gP (o2 := 9) (u := u5) (o := 4) (k := 8) (f := 136) hj cx hw hic4 rfl ⟨by decide, rfl, by decide, rfl⟩ rfl (by decide) rfl e_u5 (List.mem_cons_of_mem _ cm_749) dX4_readIf_13 ?_
    obtain ⟨p6, e_p6, h⟩ := md_ob h
    refine hp_callVi (As := []) (rest := []) cx hw (kc_X9_addLabel l D cA E _ ad _ hj oq sgq sgv hE n p4.2 u5 (show _ < 60 by omega) p6 e_p6) (cwV 0 cx.2.2.2.2.2.1 (cd_giV cm_922 cm_923 cm_924 cm_114 cm_925) rfl rfl rfl hdc_X9_addLabel ⟨by (try dsimp only); omega, by (try dsimp only); omega⟩) (cd_atO hj (by decide) (show _ < 60 by omega)) rfl rfl hl.1 rfl (Nat.le_of_ble_eq_true rfl) dX4_readIf_16 ⟨by (try dsimp only); omega, by (try dsimp only); omega⟩ (fun r u H locs hp hw => ?_)
    obtain ⟨rfl, ca, hj, rfl⟩ := hp
    refine lv_istore_n (lv' := [(3, .int p6.1), (2, .int p4.1), (0, .ref (ad 4 0)), (1, .int a1)]) cx.1 cx.2.1 dX4_readIf_19 rfl hl (by decide) rfl (fun ls hl => ?_)
    refine lv_aload_n cx.1 cx.2.1 dX4_readIf_20 rfl (lv_at hl 2 rfl) ?_
    refine cd_gO (o2 := 10) (e2 := 0) (o := 4) (k := 0) (f := 128) hj cx hw hic4 rfl ⟨by decide, rfl, by decide, rfl⟩ rfl (by decide) ⟨rfl, rfl⟩ (List.mem_cons_of_mem _ cm_658) dX4_readIf_21 ?_
    obtain ⟨p7, e_p7, h⟩ := md_ob h
    refine hp_callVv (As := []) (rest := []) cx hw (kc_X10_advance l D cA E _ ad _ hj oq sgq sgv hE n p6.2  p7 e_p7) (cwV 0 cx.2.2.2.2.2.1 (cd_giV cm_670 cm_671 cm_672 cm_301 cm_673) rfl rfl rfl hdc_X10_advance ⟨by (try dsimp only); omega, by (try dsimp only); omega⟩) (cd_atO hj (by decide) (by decide)) rfl rfl hl.1 rfl (Nat.le_of_ble_eq_true rfl) dX4_readIf_24 ⟨by (try dsimp only); omega, by (try dsimp only); omega⟩ (fun u H locs hp hw => ?_)
    obtain ⟨ca, hj, rfl⟩ := hp
    refine lv_aload_n cx.1 cx.2.1 dX4_readIf_27 rfl (lv_at hl 2 rfl) ?_
    refine lv_iload_n cx.1 cx.2.1 dX4_readIf_28 rfl (lv_at hl 3 rfl) ?_
    refine lv_iconst (v := 1) cx.1 cx.2.1 dX4_readIf_29 (by decide) ?_
    refine lv_iadd cx.1 cx.2.1 dX4_readIf_30 ?_
    obtain ⟨q8, e_q8, h⟩ := md_ob h
    obtain ⟨hm9, hn9, h⟩ := cd_cks h
    have hM9 : p.2.2.1 ≤ (Sum.elim (fun (p : Int32 × cd_S × cd_B) => p.2.2) (fun (t : cd_S × cd_B) => t.2) q8).1 ∧ p.2.2.2 ≤ (Sum.elim (fun (p : Int32 × cd_S × cd_B) => p.2.2) (fun (t : cd_S × cd_B) => t.2) q8).2 := ⟨hm9, hn9⟩
    cases q8 with
    | inr t8 =>
      exact nomatch Option.some.inj h
    | inl p8 =>
      have hle8 := (in0 sz _ hj p7.2 (p1.2.2) ((a1 + 1)) p8 e_q8).1
      have hM10009 : p.2.2.1 ≤ p8.2.2.1 ∧ p.2.2.2 ≤ p8.2.2.2 := hM9
      have h := cd_inl h
      refine hp_callVv (As := [.int (a1 + 1)]) (rest := []) cx hw ((in0 _ _ hj p7.2 (p1.2.2) ((a1 + 1)) p8 e_q8).2) (cwV 1 cx.2.2.2.2.2.1 (cd_giV cm_760 cm_761 cm_762 cm_663 cm_763) rfl rfl rfl hdc_X4_readExpression ⟨by (try dsimp only); omega, by (try dsimp only); omega⟩) (cd_atO hj (by decide) (by decide)) rfl rfl hl.1 rfl (Nat.le_of_ble_eq_true rfl) dX4_readIf_31 ⟨by (try dsimp only); omega, by (try dsimp only); omega⟩ (fun u H locs hp hw => ?_)
      obtain ⟨ca, hj, rfl⟩ := hp
      refine W.widen (k := b0.1 - p8.2.2.1) (n := b0.2 - p8.2.2.2) (by omega) (by omega) ?_
      refine lv_aload_n cx.1 cx.2.1 dX4_readIf_34 rfl (lv_at hl 2 rfl) ?_
      obtain ⟨u10, e_u10, h⟩ := md_ob h
      have hb_u10 : u10 < 60 := (cd_dps e_u10).2
      refine cd_gP (o2 := 9) (u := u10) (o := 4) (k := 8) (f := 136) hj cx hw hic4 rfl ⟨by decide, rfl, by decide, rfl⟩ rfl (by decide) rfl e_u10 (List.mem_cons_of_mem _ cm_749) dX4_readIf_35 ?_
      refine lv_bipush (v := 18) cx.1 cx.2.1 dX4_readIf_38 (by decide) ?_
      refine lv_iload_n cx.1 cx.2.1 dX4_readIf_40 rfl (lv_at hl 1 rfl) ?_
      refine lv_iconst (v := 0) cx.1 cx.2.1 dX4_readIf_41 (by decide) ?_
      obtain ⟨p11, e_p11, h⟩ := md_ob h
      obtain ⟨hm12, hn12, h⟩ := cd_cks h
      have hM12 : p.2.2.1 ≤ p11.2.2.1 ∧ p.2.2.2 ≤ p11.2.2.2 := ⟨hm12, hn12⟩
      have hle11 := (kc_X9_emit l D cA E sz ad _ hj oq sgq sgv hE n p8.2.1 (p8.2.2) u10 (18 : Int32) (p4.1) (0 : Int32) (show _ < 60 by omega) p11 e_p11).1
      refine hp_callVv (As := [.int 18, .int p4.1, .int 0]) (rest := []) cx hw ((kc_X9_emit l D cA E _ ad _ hj oq sgq sgv hE n p8.2.1 (p8.2.2) u10 (18 : Int32) (p4.1) (0 : Int32) (show _ < 60 by omega) p11 e_p11).2) (cwV 3 cx.2.2.2.2.2.1 (cd_giV cm_781 cm_782 cm_783 cm_114 cm_784) rfl rfl rfl hdc_X9_emit ⟨by (try dsimp only); omega, by (try dsimp only); omega⟩) (cd_atO hj (by decide) (show _ < 60 by omega)) rfl rfl hl.1 rfl (Nat.le_of_ble_eq_true rfl) dX4_readIf_42 ⟨by (try dsimp only); omega, by (try dsimp only); omega⟩ (fun u H locs hp hw => ?_)
      obtain ⟨ca, hj, rfl⟩ := hp
      refine W.widen (k := b0.1 - p11.2.2.1) (n := b0.2 - p11.2.2.2) (by omega) (by omega) ?_
      refine lv_aload_n cx.1 cx.2.1 dX4_readIf_45 rfl (lv_at hl 2 rfl) ?_
      refine lv_sipush (v := 216) cx.1 cx.2.1 dX4_readIf_46 (by decide) ?_
      obtain ⟨q13, e_q13, h⟩ := md_ob h
      obtain ⟨hm14, hn14, h⟩ := cd_cks h
      have hM14 : p.2.2.1 ≤ (Sum.elim (fun (p : Int32 × cd_S × cd_B) => p.2.2) (fun (t : cd_S × cd_B) => t.2) q13).1 ∧ p.2.2.2 ≤ (Sum.elim (fun (p : Int32 × cd_S × cd_B) => p.2.2) (fun (t : cd_S × cd_B) => t.2) q13).2 := ⟨hm14, hn14⟩
      cases q13 with
      | inr t13 =>
        exact nomatch Option.some.inj h
      | inl p13 =>
        have hle13 := (kc_X4_pass l D cA E sz ad _ hj oq sgq sgv hE n p11.2.1 (p11.2.2) (216 : Int32) p13 e_q13).1
        have hM10014 : p.2.2.1 ≤ p13.2.2.1 ∧ p.2.2.2 ≤ p13.2.2.2 := hM14
        have h := cd_inl h
        refine hp_callVv (As := [.int 216]) (rest := []) cx hw ((kc_X4_pass l D cA E _ ad _ hj oq sgq sgv hE n p11.2.1 (p11.2.2) (216 : Int32) p13 e_q13).2) (cwV 1 cx.2.2.2.2.2.1 (cd_giV cm_714 cm_715 cm_716 cm_663 cm_717) rfl rfl rfl hdc_X4_pass ⟨by (try dsimp only); omega, by (try dsimp only); omega⟩) (cd_atO hj (by decide) (by decide)) rfl rfl hl.1 rfl (Nat.le_of_ble_eq_true rfl) dX4_readIf_49 ⟨by (try dsimp only); omega, by (try dsimp only); omega⟩ (fun u H locs hp hw => ?_)
        obtain ⟨ca, hj, rfl⟩ := hp
        refine W.widen (k := b0.1 - p13.2.2.1) (n := b0.2 - p13.2.2.2) (by omega) (by omega) ?_
        refine lv_aload_n cx.1 cx.2.1 dX4_readIf_52 rfl (lv_at hl 2 rfl) ?_
        refine lv_iload_n cx.1 cx.2.1 dX4_readIf_53 rfl (lv_at hl 3 rfl) ?_
        refine lv_iconst (v := 1) cx.1 cx.2.1 dX4_readIf_54 (by decide) ?_
        refine lv_iadd cx.1 cx.2.1 dX4_readIf_55 ?_
        obtain ⟨q15, e_q15, h⟩ := md_ob h
        obtain ⟨hm16, hn16, h⟩ := cd_cks h
        have hM16 : p.2.2.1 ≤ (Sum.elim (fun (p : Int32 × cd_S × cd_B) => p.2.2) (fun (t : cd_S × cd_B) => t.2) q15).1 ∧ p.2.2.2 ≤ (Sum.elim (fun (p : Int32 × cd_S × cd_B) => p.2.2) (fun (t : cd_S × cd_B) => t.2) q15).2 := ⟨hm16, hn16⟩
        cases q15 with
        | inr t15 =>
          exact nomatch Option.some.inj h
        | inl p15 =>
          have hle15 := (in0 sz _ hj p13.2.1 (p13.2.2) ((a1 + 1)) p15 e_q15).1
          have hM10016 : p.2.2.1 ≤ p15.2.2.1 ∧ p.2.2.2 ≤ p15.2.2.2 := hM16
          have h := cd_inl h
          refine hp_callVv (As := [.int (a1 + 1)]) (rest := []) cx hw ((in0 _ _ hj p13.2.1 (p13.2.2) ((a1 + 1)) p15 e_q15).2) (cwV 1 cx.2.2.2.2.2.1 (cd_giV cm_760 cm_761 cm_762 cm_663 cm_763) rfl rfl rfl hdc_X4_readExpression ⟨by (try dsimp only); omega, by (try dsimp only); omega⟩) (cd_atO hj (by decide) (by decide)) rfl rfl hl.1 rfl (Nat.le_of_ble_eq_true rfl) dX4_readIf_56 ⟨by (try dsimp only); omega, by (try dsimp only); omega⟩ (fun u H locs hp hw => ?_)
          obtain ⟨ca, hj, rfl⟩ := hp
          refine W.widen (k := b0.1 - p15.2.2.1) (n := b0.2 - p15.2.2.2) (by omega) (by omega) ?_
          refine lv_aload_n cx.1 cx.2.1 dX4_readIf_59 rfl (lv_at hl 2 rfl) ?_
          obtain ⟨u17, e_u17, h⟩ := md_ob h
          have hb_u17 : u17 < 60 := (cd_dps e_u17).2
          refine cd_gP (o2 := 9) (u := u17) (o := 4) (k := 8) (f := 136) hj cx hw hic4 rfl ⟨by decide, rfl, by decide, rfl⟩ rfl (by decide) rfl e_u17 (List.mem_cons_of_mem _ cm_749) dX4_readIf_60 ?_
          refine lv_bipush (v := 17) cx.1 cx.2.1 dX4_readIf_63 (by decide) ?_
          refine lv_iload_n cx.1 cx.2.1 dX4_readIf_65 rfl (lv_at hl 0 rfl) ?_
          refine lv_iconst (v := 0) cx.1 cx.2.1 dX4_readIf_66 (by decide) ?_
          obtain ⟨p18, e_p18, h⟩ := md_ob h
          obtain ⟨hm19, hn19, h⟩ := cd_cks h
          have hM19 : p.2.2.1 ≤ p18.2.2.1 ∧ p.2.2.2 ≤ p18.2.2.2 := ⟨hm19, hn19⟩
          have hle18 := (kc_X9_emit l D cA E sz ad _ hj oq sgq sgv hE n p15.2.1 (p15.2.2) u17 (17 : Int32) (p6.1) (0 : Int32) (show _ < 60 by omega) p18 e_p18).1
          refine hp_callVv (As := [.int 17, .int p6.1, .int 0]) (rest := []) cx hw ((kc_X9_emit l D cA E _ ad _ hj oq sgq sgv hE n p15.2.1 (p15.2.2) u17 (17 : Int32) (p6.1) (0 : Int32) (show _ < 60 by omega) p18 e_p18).2) (cwV 3 cx.2.2.2.2.2.1 (cd_giV cm_781 cm_782 cm_783 cm_114 cm_784) rfl rfl rfl hdc_X9_emit ⟨by (try dsimp only); omega, by (try dsimp only); omega⟩) (cd_atO hj (by decide) (show _ < 60 by omega)) rfl rfl hl.1 rfl (Nat.le_of_ble_eq_true rfl) dX4_readIf_67 ⟨by (try dsimp only); omega, by (try dsimp only); omega⟩ (fun u H locs hp hw => ?_)
          obtain ⟨ca, hj, rfl⟩ := hp
          refine W.widen (k := b0.1 - p18.2.2.1) (n := b0.2 - p18.2.2.2) (by omega) (by omega) ?_
          refine lv_aload_n cx.1 cx.2.1 dX4_readIf_70 rfl (lv_at hl 2 rfl) ?_
          obtain ⟨u20, e_u20, h⟩ := md_ob h
          have hb_u20 : u20 < 60 := (cd_dps e_u20).2
          refine cd_gP (o2 := 9) (u := u20) (o := 4) (k := 8) (f := 136) hj cx hw hic4 rfl ⟨by decide, rfl, by decide, rfl⟩ rfl (by decide) rfl e_u20 (List.mem_cons_of_mem _ cm_749) dX4_readIf_71 ?_
          refine lv_bipush (v := 100) cx.1 cx.2.1 dX4_readIf_74 (by decide) ?_
          refine lv_iload_n cx.1 cx.2.1 dX4_readIf_76 rfl (lv_at hl 1 rfl) ?_
          refine lv_iconst (v := 0) cx.1 cx.2.1 dX4_readIf_77 (by decide) ?_
          obtain ⟨p21, e_p21, h⟩ := md_ob h
          obtain ⟨hm22, hn22, h⟩ := cd_cks h
          have hM22 : p.2.2.1 ≤ p21.2.2.1 ∧ p.2.2.2 ≤ p21.2.2.2 := ⟨hm22, hn22⟩
          have hle21 := (kc_X9_emit l D cA E sz ad _ hj oq sgq sgv hE n p18.2.1 (p18.2.2) u20 (100 : Int32) (p4.1) (0 : Int32) (show _ < 60 by omega) p21 e_p21).1
          refine hp_callVv (As := [.int 100, .int p4.1, .int 0]) (rest := []) cx hw ((kc_X9_emit l D cA E _ ad _ hj oq sgq sgv hE n p18.2.1 (p18.2.2) u20 (100 : Int32) (p4.1) (0 : Int32) (show _ < 60 by omega) p21 e_p21).2) (cwV 3 cx.2.2.2.2.2.1 (cd_giV cm_781 cm_782 cm_783 cm_114 cm_784) rfl rfl rfl hdc_X9_emit ⟨by (try dsimp only); omega, by (try dsimp only); omega⟩) (cd_atO hj (by decide) (show _ < 60 by omega)) rfl rfl hl.1 rfl (Nat.le_of_ble_eq_true rfl) dX4_readIf_78 ⟨by (try dsimp only); omega, by (try dsimp only); omega⟩ (fun u H locs hp hw => ?_)
          obtain ⟨ca, hj, rfl⟩ := hp
          refine W.widen (k := b0.1 - p21.2.2.1) (n := b0.2 - p21.2.2.2) (by omega) (by omega) ?_
          refine lv_aload_n cx.1 cx.2.1 dX4_readIf_81 rfl (lv_at hl 2 rfl) ?_
          refine lv_sipush (v := 217) cx.1 cx.2.1 dX4_readIf_82 (by decide) ?_
          obtain ⟨q23, e_q23, h⟩ := md_ob h
          obtain ⟨hm24, hn24, h⟩ := cd_cks h
          have hM24 : p.2.2.1 ≤ (Sum.elim (fun (p : Int32 × cd_S × cd_B) => p.2.2) (fun (t : cd_S × cd_B) => t.2) q23).1 ∧ p.2.2.2 ≤ (Sum.elim (fun (p : Int32 × cd_S × cd_B) => p.2.2) (fun (t : cd_S × cd_B) => t.2) q23).2 := ⟨hm24, hn24⟩
          cases q23 with
          | inr t23 =>
            exact nomatch Option.some.inj h
          | inl p23 =>
            have hle23 := (kc_X4_pass l D cA E sz ad _ hj oq sgq sgv hE n p21.2.1 (p21.2.2) (217 : Int32) p23 e_q23).1
            have hM10024 : p.2.2.1 ≤ p23.2.2.1 ∧ p.2.2.2 ≤ p23.2.2.2 := hM24
            have h := cd_inl h
            refine hp_callVv (As := [.int 217]) (rest := []) cx hw ((kc_X4_pass l D cA E _ ad _ hj oq sgq sgv hE n p21.2.1 (p21.2.2) (217 : Int32) p23 e_q23).2) (cwV 1 cx.2.2.2.2.2.1 (cd_giV cm_714 cm_715 cm_716 cm_663 cm_717) rfl rfl rfl hdc_X4_pass ⟨by (try dsimp only); omega, by (try dsimp only); omega⟩) (cd_atO hj (by decide) (by decide)) rfl rfl hl.1 rfl (Nat.le_of_ble_eq_true rfl) dX4_readIf_85 ⟨by (try dsimp only); omega, by (try dsimp only); omega⟩ (fun u H locs hp hw => ?_)
            obtain ⟨ca, hj, rfl⟩ := hp
            refine W.widen (k := b0.1 - p23.2.2.1) (n := b0.2 - p23.2.2.2) (by omega) (by omega) ?_
            refine lv_aload_n cx.1 cx.2.1 dX4_readIf_88 rfl (lv_at hl 2 rfl) ?_
            refine lv_iload_n cx.1 cx.2.1 dX4_readIf_89 rfl (lv_at hl 3 rfl) ?_
            refine lv_iconst (v := 1) cx.1 cx.2.1 dX4_readIf_90 (by decide) ?_
            refine lv_iadd cx.1 cx.2.1 dX4_readIf_91 ?_
            obtain ⟨q25, e_q25, h⟩ := md_ob h
            obtain ⟨hm26, hn26, h⟩ := cd_cks h
            have hM26 : p.2.2.1 ≤ (Sum.elim (fun (p : Int32 × cd_S × cd_B) => p.2.2) (fun (t : cd_S × cd_B) => t.2) q25).1 ∧ p.2.2.2 ≤ (Sum.elim (fun (p : Int32 × cd_S × cd_B) => p.2.2) (fun (t : cd_S × cd_B) => t.2) q25).2 := ⟨hm26, hn26⟩
            cases q25 with
            | inr t25 =>
              exact nomatch Option.some.inj h
            | inl p25 =>
              have hle25 := (in0 sz _ hj p23.2.1 (p23.2.2) ((a1 + 1)) p25 e_q25).1
              have hM10026 : p.2.2.1 ≤ p25.2.2.1 ∧ p.2.2.2 ≤ p25.2.2.2 := hM26
              have h := cd_inl h
              refine hp_callVv (As := [.int (a1 + 1)]) (rest := []) cx hw ((in0 _ _ hj p23.2.1 (p23.2.2) ((a1 + 1)) p25 e_q25).2) (cwV 1 cx.2.2.2.2.2.1 (cd_giV cm_760 cm_761 cm_762 cm_663 cm_763) rfl rfl rfl hdc_X4_readExpression ⟨by (try dsimp only); omega, by (try dsimp only); omega⟩) (cd_atO hj (by decide) (by decide)) rfl rfl hl.1 rfl (Nat.le_of_ble_eq_true rfl) dX4_readIf_92 ⟨by (try dsimp only); omega, by (try dsimp only); omega⟩ (fun u H locs hp hw => ?_)
              obtain ⟨ca, hj, rfl⟩ := hp
              refine W.widen (k := b0.1 - p25.2.2.1) (n := b0.2 - p25.2.2.2) (by omega) (by omega) ?_
              refine lv_aload_n cx.1 cx.2.1 dX4_readIf_95 rfl (lv_at hl 2 rfl) ?_
              obtain ⟨u27, e_u27, h⟩ := md_ob h
              have hb_u27 : u27 < 60 := (cd_dps e_u27).2
              refine cd_gP (o2 := 9) (u := u27) (o := 4) (k := 8) (f := 136) hj cx hw hic4 rfl ⟨by decide, rfl, by decide, rfl⟩ rfl (by decide) rfl e_u27 (List.mem_cons_of_mem _ cm_749) dX4_readIf_96 ?_
              refine lv_bipush (v := 100) cx.1 cx.2.1 dX4_readIf_99 (by decide) ?_
              refine lv_iload_n cx.1 cx.2.1 dX4_readIf_101 rfl (lv_at hl 0 rfl) ?_
              refine lv_iconst (v := 0) cx.1 cx.2.1 dX4_readIf_102 (by decide) ?_
              obtain ⟨p28, e_p28, h⟩ := md_ob h
              obtain ⟨hm29, hn29, h⟩ := cd_cks h
              have hM29 : p.2.2.1 ≤ p28.2.2.1 ∧ p.2.2.2 ≤ p28.2.2.2 := ⟨hm29, hn29⟩
              have hle28 := (kc_X9_emit l D cA E sz ad _ hj oq sgq sgv hE n p25.2.1 (p25.2.2) u27 (100 : Int32) (p6.1) (0 : Int32) (show _ < 60 by omega) p28 e_p28).1
              refine hp_callVv (As := [.int 100, .int p6.1, .int 0]) (rest := []) cx hw ((kc_X9_emit l D cA E _ ad _ hj oq sgq sgv hE n p25.2.1 (p25.2.2) u27 (100 : Int32) (p6.1) (0 : Int32) (show _ < 60 by omega) p28 e_p28).2) (cwV 3 cx.2.2.2.2.2.1 (cd_giV cm_781 cm_782 cm_783 cm_114 cm_784) rfl rfl rfl hdc_X9_emit ⟨by (try dsimp only); omega, by (try dsimp only); omega⟩) (cd_atO hj (by decide) (show _ < 60 by omega)) rfl rfl hl.1 rfl (Nat.le_of_ble_eq_true rfl) dX4_readIf_103 ⟨by (try dsimp only); omega, by (try dsimp only); omega⟩ (fun u H locs hp hw => ?_)
              obtain ⟨ca, hj, rfl⟩ := hp
              refine W.widen (k := b0.1 - p28.2.2.1) (n := b0.2 - p28.2.2.2) (by omega) (by omega) ?_
              exact hp_vret cx hw ((cd_retb hj (congrArg some (Sum.inl.inj (Option.some.inj h)))).2) dX4_readIf_106 (cd_le1 (congrArg some (Sum.inl.inj (Option.some.inj h)))) (cd_le2 (congrArg some (Sum.inl.inj (Option.some.inj h))))
set_option maxHeartbeats 4000000 in
set_option maxRecDepth 100000 in
theorem kc_X4_readBound (l : Launch) (D : va_G) (cA : Nat → ClassId) (E : hp_N) (sz : Nat) (ad : Nat → Nat → Nat) (ca0 : Nat → Nat) (hj : cd_inj ad ca0) (oq sgq sgv : Nat) (hE : cd_E E oq sgq sgv) (n d : Nat) (rec : cd_R) (in0 : ∀ (sz : Nat) (ca : Nat → Nat) (_ : cd_inj ad ca) (σ : cd_S) (b : cd_B) (a1 : Int32) (p : Int32 × cd_S × cd_B), rec 0 0 a1 0 σ b = some (Sum.inl p) → (p.2.2.1 ≤ b.1 ∧ p.2.2.2 ≤ b.2) ∧ Met l yX4_readExpression (Cond.code yX4_readExpression cX4_readExpression 2 none :: v_CLS) ({ frames := d + 16, cells := b.1 - p.2.2.1, slots := b.2 - p.2.2.2, locals := 26 * d + 286 }) (hp_Pc D vwCl (hp_Tl cA) E sz (cd_pic cA ad ca σ) [.ref (ad 4 0), .int a1]) (hp_Qv D vwCl (hp_Tl cA) sz (cd_pic cA ad ca σ) (fun u => ∃ ca1, cd_inj ad ca1 ∧ u = cd_pic cA ad ca1 p.2.1)) (b.1 - p.2.2.1) (b.2 - p.2.2.2) (hp_A (cd_pic cA ad ca σ) sz)) (σ0 : cd_S) (b0 : cd_B) (a1 : Int64) (a3 : Int32) (a4 : Int32) (p : (Int32 × cd_S × cd_B)) (h : f_X4_readBound n rec σ0 b0 a1 a3 a4 = some (Sum.inl p)) : (p.2.2.1 ≤ b0.1 ∧ p.2.2.2 ≤ b0.2) ∧ Met l yX4_readBound (Cond.code yX4_readBound cX4_readBound 5 none :: v_CLS) ({ frames := (d + 1) + 16, cells := b0.1 - p.2.2.1, slots := b0.2 - p.2.2.2, locals := 26 * (d + 1) + 286 }) (hp_Pc D vwCl (hp_Tl cA) E sz (cd_pic cA ad ca0 σ0) [.ref (ad 4 0), .long a1, .int a3, .int a4]) (hp_Qv D vwCl (hp_Tl cA) sz (cd_pic cA ad ca0 σ0) (fun u => ∃ ca1, cd_inj ad ca1 ∧ u = cd_pic cA ad ca1 p.2.1)) (b0.1 - p.2.2.1) (b0.2 - p.2.2.2) (hp_A (cd_pic cA ad ca0 σ0) sz) := by
  obtain ⟨hm0, hn0, h⟩ := cd_cks h
  have hM0 : p.2.2.1 ≤ b0.1 ∧ p.2.2.2 ≤ b0.2 := ⟨hm0, hn0⟩
  refine ⟨hM0, ?_⟩
  refine hp_ofW (cc := cX4_readBound) (maxL := 5) (ret := none) (by decide) rfl (Nat.le_of_ble_eq_true rfl) ?_
  intro pp ee ss mm bb mt cd ls cx hsz hw hl
  have hl : lv_has ls 5 [(0, .ref (ad 4 0)), (1, .long a1), (3, .int a3), (4, .int a4)] := hl
  refine W.widen (k := b0.1 - b0.1) (n := b0.2 - b0.2) (Nat.zero_le _) (Nat.zero_le _) ?_
  refine lv_aload_n cx.1 cx.2.1 dX4_readBound_0 rfl (lv_at hl 0 rfl) ?_
  obtain ⟨u1, e_u1, h⟩ := md_ob h
  have hb_u1 : u1 < 60 := (cd_dps e_u1).2
  refine cd_gP (o2 := 9) (u := u1) (o := 4) (k := 8) (f := 136) hj cx hw hic4 rfl ⟨by decide, rfl, by decide, rfl⟩ rfl (by decide) rfl e_u1 (List.mem_cons_of_mem _ cm_749) dX4_readBound_1 ?_
  refine lv_iconst (v := 3) cx.1 cx.2.1 dX4_readBound_4 (by decide) ?_
  refine lv_iload_n cx.1 cx.2.1 dX4_readBound_5 rfl (lv_at hl 2 rfl) ?_
  refine lv_iconst (v := 0) cx.1 cx.2.1 dX4_readBound_6 (by decide) ?_
  obtain ⟨p2, e_p2, h⟩ := md_ob h
  obtain ⟨hm3, hn3, h⟩ := cd_cks h
  have hM3 : p.2.2.1 ≤ p2.2.2.1 ∧ p.2.2.2 ≤ p2.2.2.2 := ⟨hm3, hn3⟩
  have hle2 := (kc_X9_emit l D cA E sz ad _ hj oq sgq sgv hE n σ0 b0 u1 (3 : Int32) a3 (0 : Int32) (show _ < 60 by omega) p2 e_p2).1
  refine hp_callVv (As := [.int 3, .int a3, .int 0]) (rest := []) cx hw ((kc_X9_emit l D cA E _ ad _ hj oq sgq sgv hE n σ0 b0 u1 (3 : Int32) a3 (0 : Int32) (show _ < 60 by omega) p2 e_p2).2) (cwV 3 cx.2.2.2.2.2.1 (cd_giV cm_781 cm_782 cm_783 cm_114 cm_784) rfl rfl rfl hdc_X9_emit ⟨by (try dsimp only); omega, by (try dsimp only); omega⟩) (cd_atO hj (by decide) (show _ < 60 by omega)) rfl rfl hl.1 rfl (Nat.le_of_ble_eq_true rfl) dX4_readBound_7 ⟨by (try dsimp only); omega, by (try dsimp only); omega⟩ (fun u H locs hp hw => ?_)
  obtain ⟨ca, hj, rfl⟩ := hp
  refine W.widen (k := b0.1 - p2.2.2.1) (n := b0.2 - p2.2.2.2) (by omega) (by omega) ?_
  refine lv_aload_n cx.1 cx.2.1 dX4_readBound_10 rfl (lv_at hl 0 rfl) ?_
  refine lv_lload_n cx.1 cx.2.1 dX4_readBound_11 rfl (lv_at hl 1 rfl) ?_
  refine lv_iload_n cx.1 cx.2.1 dX4_readBound_12 rfl (lv_at hl 2 rfl) ?_
  obtain ⟨p4, e_p4, h⟩ := md_ob h
  refine hp_callVv (As := [.long a1, .int a3]) (rest := []) cx hw (kc_X4_declare l D cA E _ ad _ hj oq sgq sgv hE n p2.2.1 a1 a3 p4 e_p4) (cwV 2 cx.2.2.2.2.2.1 (cd_giV cm_802 cm_803 cm_804 cm_663 cm_805) rfl rfl rfl hdc_X4_declare ⟨by (try dsimp only); omega, by (try dsimp only); omega⟩) (cd_atO hj (by decide) (by decide)) rfl rfl hl.1 rfl (Nat.le_of_ble_eq_true rfl) dX4_readBound_13 ⟨by (try dsimp only); omega, by (try dsimp only); omega⟩ (fun u H locs hp hw => ?_)
  obtain ⟨ca, hj, rfl⟩ := hp
  refine lv_aload_n cx.1 cx.2.1 dX4_readBound_16 rfl (lv_at hl 0 rfl) ?_
  refine lv_iload cx.1 cx.2.1 dX4_readBound_17 (lv_at hl 3 rfl) ?_
  refine lv_iconst (v := 1) cx.1 cx.2.1 dX4_readBound_19 (by decide) ?_
  refine lv_iadd cx.1 cx.2.1 dX4_readBound_20 ?_
  obtain ⟨q5, e_q5, h⟩ := md_ob h
  obtain ⟨hm6, hn6, h⟩ := cd_cks h
  have hM6 : p.2.2.1 ≤ (Sum.elim (fun (p : Int32 × cd_S × cd_B) => p.2.2) (fun (t : cd_S × cd_B) => t.2) q5).1 ∧ p.2.2.2 ≤ (Sum.elim (fun (p : Int32 × cd_S × cd_B) => p.2.2) (fun (t : cd_S × cd_B) => t.2) q5).2 := ⟨hm6, hn6⟩
  cases q5 with
  | inr t5 =>
    exact nomatch Option.some.inj h
  | inl p5 =>
    have hle5 := (in0 sz _ hj p4.2 (p2.2.2) ((a4 + 1)) p5 e_q5).1
    have hM10006 : p.2.2.1 ≤ p5.2.2.1 ∧ p.2.2.2 ≤ p5.2.2.2 := hM6
    have h := cd_inl h
    refine hp_callVv (As := [.int (a4 + 1)]) (rest := []) cx hw ((in0 _ _ hj p4.2 (p2.2.2) ((a4 + 1)) p5 e_q5).2) (cwV 1 cx.2.2.2.2.2.1 (cd_giV cm_760 cm_761 cm_762 cm_663 cm_763) rfl rfl rfl hdc_X4_readExpression ⟨by (try dsimp only); omega, by (try dsimp only); omega⟩) (cd_atO hj (by decide) (by decide)) rfl rfl hl.1 rfl (Nat.le_of_ble_eq_true rfl) dX4_readBound_21 ⟨by (try dsimp only); omega, by (try dsimp only); omega⟩ (fun u H locs hp hw => ?_)
    obtain ⟨ca, hj, rfl⟩ := hp
    refine W.widen (k := b0.1 - p5.2.2.1) (n := b0.2 - p5.2.2.2) (by omega) (by omega) ?_
    refine lv_aload_n cx.1 cx.2.1 dX4_readBound_24 rfl (lv_at hl 0 rfl) ?_
    refine lv_dup cx.1 cx.2.1 dX4_readBound_25 rfl ?_
    refine cd_gI (o := 4) (k := 6) (f := 134) hj cx hw hic4 rfl ⟨by decide, rfl, by decide, rfl⟩ rfl (by decide) (List.mem_cons_of_mem _ cm_728) dX4_readBound_26 ?_
    refine lv_iconst (v := 1) cx.1 cx.2.1 dX4_readBound_29 (by decide) ?_
    refine lv_isub cx.1 cx.2.1 dX4_readBound_30 ?_
    obtain ⟨σ7, e_σ7, h⟩ := md_ob h
    refine cd_pI (o := 4) (k := 6) (f := 134) hj cx hw hic4 rfl ⟨by decide, rfl, by decide, rfl⟩ tyX4_ok nmX4 rfl (by decide) rfl (List.mem_cons_of_mem _ cm_728) rfl e_σ7 dX4_readBound_31 (fun H locs hw => ?_)
    exact hp_vret cx hw ((cd_retb hj (congrArg some (Sum.inl.inj (Option.some.inj h)))).2) dX4_readBound_34 (cd_le1 (congrArg some (Sum.inl.inj (Option.some.inj h)))) (cd_le2 (congrArg some (Sum.inl.inj (Option.some.inj h))))
set_option maxHeartbeats 4000000 in
set_option maxRecDepth 100000 in
theorem kc_X4_readLet (l : Launch) (D : va_G) (cA : Nat → ClassId) (E : hp_N) (sz : Nat) (ad : Nat → Nat → Nat) (ca0 : Nat → Nat) (hj : cd_inj ad ca0) (oq sgq sgv : Nat) (hE : cd_E E oq sgq sgv) (n d : Nat) (rec : cd_R) (in2 : ∀ (sz : Nat) (ca : Nat → Nat) (_ : cd_inj ad ca) (σ : cd_S) (b : cd_B) (a1 : Int64) (a3 : Int32) (a4 : Int32) (p : Int32 × cd_S × cd_B), rec 2 a1 a3 a4 σ b = some (Sum.inl p) → (p.2.2.1 ≤ b.1 ∧ p.2.2.2 ≤ b.2) ∧ Met l yX4_readBound (Cond.code yX4_readBound cX4_readBound 5 none :: v_CLS) ({ frames := d + 16, cells := b.1 - p.2.2.1, slots := b.2 - p.2.2.2, locals := 26 * d + 286 }) (hp_Pc D vwCl (hp_Tl cA) E sz (cd_pic cA ad ca σ) [.ref (ad 4 0), .long a1, .int a3, .int a4]) (hp_Qv D vwCl (hp_Tl cA) sz (cd_pic cA ad ca σ) (fun u => ∃ ca1, cd_inj ad ca1 ∧ u = cd_pic cA ad ca1 p.2.1)) (b.1 - p.2.2.1) (b.2 - p.2.2.2) (hp_A (cd_pic cA ad ca σ) sz)) (in0 : ∀ (sz : Nat) (ca : Nat → Nat) (_ : cd_inj ad ca) (σ : cd_S) (b : cd_B) (a1 : Int32) (p : Int32 × cd_S × cd_B), rec 0 0 a1 0 σ b = some (Sum.inl p) → (p.2.2.1 ≤ b.1 ∧ p.2.2.2 ≤ b.2) ∧ Met l yX4_readExpression (Cond.code yX4_readExpression cX4_readExpression 2 none :: v_CLS) ({ frames := d + 16, cells := b.1 - p.2.2.1, slots := b.2 - p.2.2.2, locals := 26 * d + 286 }) (hp_Pc D vwCl (hp_Tl cA) E sz (cd_pic cA ad ca σ) [.ref (ad 4 0), .int a1]) (hp_Qv D vwCl (hp_Tl cA) sz (cd_pic cA ad ca σ) (fun u => ∃ ca1, cd_inj ad ca1 ∧ u = cd_pic cA ad ca1 p.2.1)) (b.1 - p.2.2.1) (b.2 - p.2.2.2) (hp_A (cd_pic cA ad ca σ) sz)) (σ0 : cd_S) (b0 : cd_B) (a1 : Int32) (p : (Int32 × cd_S × cd_B)) (h : f_X4_readLet n rec σ0 b0 a1 = some (Sum.inl p)) : (p.2.2.1 ≤ b0.1 ∧ p.2.2.2 ≤ b0.2) ∧ Met l yX4_readLet (Cond.code yX4_readLet cX4_readLet 5 none :: v_CLS) ({ frames := (d + 1) + 16, cells := b0.1 - p.2.2.1, slots := b0.2 - p.2.2.2, locals := 26 * (d + 1) + 286 }) (hp_Pc D vwCl (hp_Tl cA) E sz (cd_pic cA ad ca0 σ0) [.ref (ad 4 0), .int a1]) (hp_Qv D vwCl (hp_Tl cA) sz (cd_pic cA ad ca0 σ0) (fun u => ∃ ca1, cd_inj ad ca1 ∧ u = cd_pic cA ad ca1 p.2.1)) (b0.1 - p.2.2.1) (b0.2 - p.2.2.2) (hp_A (cd_pic cA ad ca0 σ0) sz) := by
  obtain ⟨hm0, hn0, h⟩ := cd_cks h
  have hM0 : p.2.2.1 ≤ b0.1 ∧ p.2.2.2 ≤ b0.2 := ⟨hm0, hn0⟩
  refine ⟨hM0, ?_⟩
  refine hp_ofW (cc := cX4_readLet) (maxL := 5) (ret := none) (by decide) rfl (Nat.le_of_ble_eq_true rfl) ?_
  intro pp ee ss mm bb mt cd ls cx hsz hw hl
  have hl : lv_has ls 5 [(0, .ref (ad 4 0)), (1, .int a1)] := hl
  refine W.widen (k := b0.1 - b0.1) (n := b0.2 - b0.2) (Nat.zero_le _) (Nat.zero_le _) ?_
  have J38 : ∀ (ca : Nat → Nat) (hj : cd_inj ad ca) (σ : cd_S) (b : cd_B) (l1 : Int32) (l2 : Int32) (t0 : Int32) (H : Heap) (locs : List Loc) (ls : Array Slot), b.1 ≤ b0.1 → b.2 ≤ b0.2 → p.2.2.1 ≤ b.1 → p.2.2.2 ≤ b.2 → f_X4_readLet_J38 n rec σ b l1 l2 t0 = some (Sum.inl p) → hp_w D vwCl (hp_Tl cA) E (hp_A (cd_pic cA ad ca0 σ0) sz) ss H locs (cd_pic cA ad ca σ) → lv_has ls 5 [(0, .ref (ad 4 0)), (1, .int l1), (2, .int l2)] → W pp l ee ({ frames := (d + 1) + 16, cells := b0.1 - p.2.2.1, slots := b0.2 - p.2.2.2, locals := 26 * (d + 1) + 286 }) ss mm [.ref (ad 4 0), .int a1].toArray bb mt cd H locs (b0.1 - b.1) (b0.2 - b.2) (MQ bb (hp_Qv D vwCl (hp_Tl cA) sz (cd_pic cA ad ca0 σ0) (fun u => ∃ ca1, cd_inj ad ca1 ∧ u = cd_pic cA ad ca1 p.2.1)) [.ref (ad 4 0), .int a1].toArray ss (b0.1 - p.2.2.1) (b0.2 - p.2.2.2) (hp_A (cd_pic cA ad ca0 σ0) sz)) (F0 mm 38 ls [.int t0, .ref (ad 4 0)]) := by
    intro ca hj σ b l1 l2 t0 H locs ls hb1 hb2 hf1 hf2 h hw hl
    obtain ⟨q1, e_q1, h⟩ := md_ob h
    obtain ⟨hm2, hn2, h⟩ := cd_cks h
    have hM2 : p.2.2.1 ≤ (Sum.elim (fun (p : Int32 × cd_S × cd_B) => p.2.2) (fun (t : cd_S × cd_B) => t.2) q1).1 ∧ p.2.2.2 ≤ (Sum.elim (fun (p : Int32 × cd_S × cd_B) => p.2.2) (fun (t : cd_S × cd_B) => t.2) q1).2 := ⟨hm2, hn2⟩
    cases q1 with
    | inr t1 =>
      exact nomatch Option.some.inj h
    | inl p1 =>
      have hle1 := (kc_X4_room l D cA E sz ad _ hj oq sgq sgv hE n σ b t0 p1 e_q1).1
      have hM10002 : p.2.2.1 ≤ p1.2.2.1 ∧ p.2.2.2 ≤ p1.2.2.2 := hM2
      have h := cd_inl h
      refine hp_callVv (As := [.int t0]) (rest := []) cx hw ((kc_X4_room l D cA E _ ad _ hj oq sgq sgv hE n σ b t0 p1 e_q1).2) (cwV 1 cx.2.2.2.2.2.1 (cd_giV cm_691 cm_692 cm_693 cm_663 cm_694) rfl rfl rfl hdc_X4_room ⟨by (try dsimp only); omega, by (try dsimp only); omega⟩) (cd_atO hj (by decide) (by decide)) rfl rfl hl.1 rfl (Nat.le_of_ble_eq_true rfl) dX4_readLet_38 ⟨by (try dsimp only); omega, by (try dsimp only); omega⟩ (fun u H locs hp hw => ?_)
      obtain ⟨ca, hj, rfl⟩ := hp
      refine W.widen (k := b0.1 - p1.2.2.1) (n := b0.2 - p1.2.2.2) (by omega) (by omega) ?_
      refine lv_aload_n cx.1 cx.2.1 dX4_readLet_41 rfl (lv_at hl 0 rfl) ?_
      refine cd_gO (o2 := 10) (e2 := 0) (o := 4) (k := 0) (f := 128) hj cx hw hic4 rfl ⟨by decide, rfl, by decide, rfl⟩ rfl (by decide) ⟨rfl, rfl⟩ (List.mem_cons_of_mem _ cm_658) dX4_readLet_42 ?_
      refine cd_gJ (o := 10) (k := 10) (f := 330) hj cx hw hic10 rfl ⟨by decide, rfl, by decide, rfl⟩ rfl (by decide) (List.mem_cons_of_mem _ cm_695) dX4_readLet_45 ?_
      refine lv_lstore_n (lv' := [(3, .long (cJ p1.2.1 330 0)), (0, .ref (ad 4 0)), (1, .int l1), (2, .int l2)]) cx.1 cx.2.1 dX4_readLet_48 rfl hl (by decide) rfl (fun ls hl => ?_)
      refine lv_aload_n cx.1 cx.2.1 dX4_readLet_49 rfl (lv_at hl 1 rfl) ?_
      refine cd_gO (o2 := 10) (e2 := 0) (o := 4) (k := 0) (f := 128) hj cx hw hic4 rfl ⟨by decide, rfl, by decide, rfl⟩ rfl (by decide) ⟨rfl, rfl⟩ (List.mem_cons_of_mem _ cm_658) dX4_readLet_50 ?_
      obtain ⟨p3, e_p3, h⟩ := md_ob h
      refine hp_callVv (As := []) (rest := []) cx hw (kc_X10_advance l D cA E _ ad _ hj oq sgq sgv hE n p1.2.1  p3 e_p3) (cwV 0 cx.2.2.2.2.2.1 (cd_giV cm_670 cm_671 cm_672 cm_301 cm_673) rfl rfl rfl hdc_X10_advance ⟨by (try dsimp only); omega, by (try dsimp only); omega⟩) (cd_atO hj (by decide) (by decide)) rfl rfl hl.1 rfl (Nat.le_of_ble_eq_true rfl) dX4_readLet_53 ⟨by (try dsimp only); omega, by (try dsimp only); omega⟩ (fun u H locs hp hw => ?_)
      obtain ⟨ca, hj, rfl⟩ := hp
      refine lv_aload_n cx.1 cx.2.1 dX4_readLet_56 rfl (lv_at hl 1 rfl) ?_
      refine lv_bipush (v := 61) cx.1 cx.2.1 dX4_readLet_57 (by decide) ?_
      obtain ⟨q4, e_q4, h⟩ := md_ob h
      obtain ⟨hm5, hn5, h⟩ := cd_cks h
      have hM5 : p.2.2.1 ≤ (Sum.elim (fun (p : Int32 × cd_S × cd_B) => p.2.2) (fun (t : cd_S × cd_B) => t.2) q4).1 ∧ p.2.2.2 ≤ (Sum.elim (fun (p : Int32 × cd_S × cd_B) => p.2.2) (fun (t : cd_S × cd_B) => t.2) q4).2 := ⟨hm5, hn5⟩
      cases q4 with
      | inr t4 =>
        exact nomatch Option.some.inj h
      | inl p4 =>
        have hle4 := (kc_X4_pass l D cA E sz ad _ hj oq sgq sgv hE n p3.2 (p1.2.2) (61 : Int32) p4 e_q4).1
        have hM10005 : p.2.2.1 ≤ p4.2.2.1 ∧ p.2.2.2 ≤ p4.2.2.2 := hM5
        have h := cd_inl h
        refine hp_callVv (As := [.int 61]) (rest := []) cx hw ((kc_X4_pass l D cA E _ ad _ hj oq sgq sgv hE n p3.2 (p1.2.2) (61 : Int32) p4 e_q4).2) (cwV 1 cx.2.2.2.2.2.1 (cd_giV cm_714 cm_715 cm_716 cm_663 cm_717) rfl rfl rfl hdc_X4_pass ⟨by (try dsimp only); omega, by (try dsimp only); omega⟩) (cd_atO hj (by decide) (by decide)) rfl rfl hl.1 rfl (Nat.le_of_ble_eq_true rfl) dX4_readLet_59 ⟨by (try dsimp only); omega, by (try dsimp only); omega⟩ (fun u H locs hp hw => ?_)
        obtain ⟨ca, hj, rfl⟩ := hp
        refine W.widen (k := b0.1 - p4.2.2.1) (n := b0.2 - p4.2.2.2) (by omega) (by omega) ?_
        refine lv_aload_n cx.1 cx.2.1 dX4_readLet_62 rfl (lv_at hl 1 rfl) ?_
        refine lv_iload_n cx.1 cx.2.1 dX4_readLet_63 rfl (lv_at hl 2 rfl) ?_
        refine lv_iconst (v := 1) cx.1 cx.2.1 dX4_readLet_64 (by decide) ?_
        refine lv_iadd cx.1 cx.2.1 dX4_readLet_65 ?_
        obtain ⟨q6, e_q6, h⟩ := md_ob h
        obtain ⟨hm7, hn7, h⟩ := cd_cks h
        have hM7 : p.2.2.1 ≤ (Sum.elim (fun (p : Int32 × cd_S × cd_B) => p.2.2) (fun (t : cd_S × cd_B) => t.2) q6).1 ∧ p.2.2.2 ≤ (Sum.elim (fun (p : Int32 × cd_S × cd_B) => p.2.2) (fun (t : cd_S × cd_B) => t.2) q6).2 := ⟨hm7, hn7⟩
        cases q6 with
        | inr t6 =>
          exact nomatch Option.some.inj h
        | inl p6 =>
          have hle6 := (in0 sz _ hj p4.2.1 (p4.2.2) ((l1 + 1)) p6 e_q6).1
          have hM10007 : p.2.2.1 ≤ p6.2.2.1 ∧ p.2.2.2 ≤ p6.2.2.2 := hM7
          have h := cd_inl h
          refine hp_callVv (As := [.int (l1 + 1)]) (rest := []) cx hw ((in0 _ _ hj p4.2.1 (p4.2.2) ((l1 + 1)) p6 e_q6).2) (cwV 1 cx.2.2.2.2.2.1 (cd_giV cm_760 cm_761 cm_762 cm_663 cm_763) rfl rfl rfl hdc_X4_readExpression ⟨by (try dsimp only); omega, by (try dsimp only); omega⟩) (cd_atO hj (by decide) (by decide)) rfl rfl hl.1 rfl (Nat.le_of_ble_eq_true rfl) dX4_readLet_66 ⟨by (try dsimp only); omega, by (try dsimp only); omega⟩ (fun u H locs hp hw => ?_)
          obtain ⟨ca, hj, rfl⟩ := hp
          refine W.widen (k := b0.1 - p6.2.2.1) (n := b0.2 - p6.2.2.2) (by omega) (by omega) ?_
          refine lv_aload_n cx.1 cx.2.1 dX4_readLet_69 rfl (lv_at hl 1 rfl) ?_
          refine lv_sipush (v := 214) cx.1 cx.2.1 dX4_readLet_70 (by decide) ?_
          obtain ⟨q8, e_q8, h⟩ := md_ob h
          obtain ⟨hm9, hn9, h⟩ := cd_cks h
          have hM9 : p.2.2.1 ≤ (Sum.elim (fun (p : Int32 × cd_S × cd_B) => p.2.2) (fun (t : cd_S × cd_B) => t.2) q8).1 ∧ p.2.2.2 ≤ (Sum.elim (fun (p : Int32 × cd_S × cd_B) => p.2.2) (fun (t : cd_S × cd_B) => t.2) q8).2 := ⟨hm9, hn9⟩
          cases q8 with
          | inr t8 =>
            exact nomatch Option.some.inj h
          | inl p8 =>
            have hle8 := (kc_X4_pass l D cA E sz ad _ hj oq sgq sgv hE n p6.2.1 (p6.2.2) (214 : Int32) p8 e_q8).1
            have hM10009 : p.2.2.1 ≤ p8.2.2.1 ∧ p.2.2.2 ≤ p8.2.2.2 := hM9
            have h := cd_inl h
            refine hp_callVv (As := [.int 214]) (rest := []) cx hw ((kc_X4_pass l D cA E _ ad _ hj oq sgq sgv hE n p6.2.1 (p6.2.2) (214 : Int32) p8 e_q8).2) (cwV 1 cx.2.2.2.2.2.1 (cd_giV cm_714 cm_715 cm_716 cm_663 cm_717) rfl rfl rfl hdc_X4_pass ⟨by (try dsimp only); omega, by (try dsimp only); omega⟩) (cd_atO hj (by decide) (by decide)) rfl rfl hl.1 rfl (Nat.le_of_ble_eq_true rfl) dX4_readLet_73 ⟨by (try dsimp only); omega, by (try dsimp only); omega⟩ (fun u H locs hp hw => ?_)
            obtain ⟨ca, hj, rfl⟩ := hp
            refine W.widen (k := b0.1 - p8.2.2.1) (n := b0.2 - p8.2.2.2) (by omega) (by omega) ?_
            refine lv_aload_n cx.1 cx.2.1 dX4_readLet_76 rfl (lv_at hl 1 rfl) ?_
            refine lv_lload_n cx.1 cx.2.1 dX4_readLet_77 rfl (lv_at hl 0 rfl) ?_
            refine lv_iload_n cx.1 cx.2.1 dX4_readLet_78 rfl (lv_at hl 3 rfl) ?_
            refine lv_iload_n cx.1 cx.2.1 dX4_readLet_79 rfl (lv_at hl 2 rfl) ?_
            obtain ⟨q10, e_q10, h⟩ := md_ob h
            obtain ⟨hm11, hn11, h⟩ := cd_cks h
            have hM11 : p.2.2.1 ≤ (Sum.elim (fun (p : Int32 × cd_S × cd_B) => p.2.2) (fun (t : cd_S × cd_B) => t.2) q10).1 ∧ p.2.2.2 ≤ (Sum.elim (fun (p : Int32 × cd_S × cd_B) => p.2.2) (fun (t : cd_S × cd_B) => t.2) q10).2 := ⟨hm11, hn11⟩
            cases q10 with
            | inr t10 =>
              exact nomatch Option.some.inj h
            | inl p10 =>
              have hle10 := (in2 sz _ hj p8.2.1 (p8.2.2) ((cJ p1.2.1 330 0)) l2 l1 p10 e_q10).1
              have hM10011 : p.2.2.1 ≤ p10.2.2.1 ∧ p.2.2.2 ≤ p10.2.2.2 := hM11
              have h := cd_inl h
              refine hp_callVv (As := [.long (cJ p1.2.1 330 0), .int l2, .int l1]) (rest := []) cx hw ((in2 _ _ hj p8.2.1 (p8.2.2) ((cJ p1.2.1 330 0)) l2 l1 p10 e_q10).2) (cwV 3 cx.2.2.2.2.2.1 (cd_giV cm_926 cm_927 cm_928 cm_663 cm_929) rfl rfl rfl hdc_X4_readBound ⟨by (try dsimp only); omega, by (try dsimp only); omega⟩) (cd_atO hj (by decide) (by decide)) rfl rfl hl.1 rfl (Nat.le_of_ble_eq_true rfl) dX4_readLet_80 ⟨by (try dsimp only); omega, by (try dsimp only); omega⟩ (fun u H locs hp hw => ?_)
              obtain ⟨ca, hj, rfl⟩ := hp
              refine W.widen (k := b0.1 - p10.2.2.1) (n := b0.2 - p10.2.2.2) (by omega) (by omega) ?_
              exact hp_vret cx hw ((cd_retb hj (congrArg some (Sum.inl.inj (Option.some.inj h)))).2) dX4_readLet_83 (cd_le1 (congrArg some (Sum.inl.inj (Option.some.inj h)))) (cd_le2 (congrArg some (Sum.inl.inj (Option.some.inj h))))
  refine lv_aload_n cx.1 cx.2.1 dX4_readLet_0 rfl (lv_at hl 0 rfl) ?_
  obtain ⟨q12, e_q12, h⟩ := md_ob h
  obtain ⟨hm13, hn13, h⟩ := cd_cks h
  have hM13 : p.2.2.1 ≤ (Sum.elim (fun (p : Int32 × cd_S × cd_B) => p.2.2) (fun (t : cd_S × cd_B) => t.2) q12).1 ∧ p.2.2.2 ≤ (Sum.elim (fun (p : Int32 × cd_S × cd_B) => p.2.2) (fun (t : cd_S × cd_B) => t.2) q12).2 := ⟨hm13, hn13⟩
  cases q12 with
  | inr t12 =>
    exact nomatch Option.some.inj h
  | inl p12 =>
    have hle12 := (kc_X4_part l D cA E sz ad _ hj oq sgq sgv hE n σ0 b0  p12 e_q12).1
    have hM10013 : p.2.2.1 ≤ p12.2.2.1 ∧ p.2.2.2 ≤ p12.2.2.2 := hM13
    have h := cd_inl h
    refine hp_callVv (As := []) (rest := []) cx hw ((kc_X4_part l D cA E _ ad _ hj oq sgq sgv hE n σ0 b0  p12 e_q12).2) (cwV 0 cx.2.2.2.2.2.1 (cd_giV cm_764 cm_765 cm_766 cm_663 cm_767) rfl rfl rfl hdc_X4_part ⟨by (try dsimp only); omega, by (try dsimp only); omega⟩) (cd_atO hj (by decide) (by decide)) rfl rfl hl.1 rfl (Nat.le_of_ble_eq_true rfl) dX4_readLet_1 ⟨by (try dsimp only); omega, by (try dsimp only); omega⟩ (fun u H locs hp hw => ?_)
    obtain ⟨ca, hj, rfl⟩ := hp
    refine W.widen (k := b0.1 - p12.2.2.1) (n := b0.2 - p12.2.2.2) (by omega) (by omega) ?_
    refine lv_aload_n cx.1 cx.2.1 dX4_readLet_4 rfl (lv_at hl 0 rfl) ?_
    obtain ⟨u14, e_u14, h⟩ := md_ob h
    have hb_u14 : u14 < 60 := (cd_dps e_u14).2
    refine cd_gP (o2 := 9) (u := u14) (o := 4) (k := 8) (f := 136) hj cx hw hic4 rfl ⟨by decide, rfl, by decide, rfl⟩ rfl (by decide) rfl e_u14 (List.mem_cons_of_mem _ cm_749) dX4_readLet_5 ?_
    obtain ⟨p15, e_p15, h⟩ := md_ob h
    refine hp_callVi (As := []) (rest := []) cx hw (kc_X9_addOwn l D cA E _ ad _ hj oq sgq sgv hE n p12.2.1 u14 (show _ < 60 by omega) p15 e_p15) (cwV 0 cx.2.2.2.2.2.1 (cd_giV cm_798 cm_799 cm_800 cm_114 cm_801) rfl rfl rfl hdc_X9_addOwn ⟨by (try dsimp only); omega, by (try dsimp only); omega⟩) (cd_atO hj (by decide) (show _ < 60 by omega)) rfl rfl hl.1 rfl (Nat.le_of_ble_eq_true rfl) dX4_readLet_8 ⟨by (try dsimp only); omega, by (try dsimp only); omega⟩ (fun r u H locs hp hw => ?_)
    obtain ⟨rfl, ca, hj, rfl⟩ := hp
    refine lv_istore_n (lv' := [(2, .int p15.1), (0, .ref (ad 4 0)), (1, .int a1)]) cx.1 cx.2.1 dX4_readLet_11 rfl hl (by decide) rfl (fun ls hl => ?_)
    refine lv_aload_n cx.1 cx.2.1 dX4_readLet_12 rfl (lv_at hl 1 rfl) ?_
    refine cd_gO (o2 := 10) (e2 := 0) (o := 4) (k := 0) (f := 128) hj cx hw hic4 rfl ⟨by decide, rfl, by decide, rfl⟩ rfl (by decide) ⟨rfl, rfl⟩ (List.mem_cons_of_mem _ cm_658) dX4_readLet_13 ?_
    obtain ⟨p16, e_p16, h⟩ := md_ob h
    refine hp_callVv (As := []) (rest := []) cx hw (kc_X10_advance l D cA E _ ad _ hj oq sgq sgv hE n p15.2  p16 e_p16) (cwV 0 cx.2.2.2.2.2.1 (cd_giV cm_670 cm_671 cm_672 cm_301 cm_673) rfl rfl rfl hdc_X10_advance ⟨by (try dsimp only); omega, by (try dsimp only); omega⟩) (cd_atO hj (by decide) (by decide)) rfl rfl hl.1 rfl (Nat.le_of_ble_eq_true rfl) dX4_readLet_16 ⟨by (try dsimp only); omega, by (try dsimp only); omega⟩ (fun u H locs hp hw => ?_)
    obtain ⟨ca, hj, rfl⟩ := hp
    refine lv_aload_n cx.1 cx.2.1 dX4_readLet_19 rfl (lv_at hl 1 rfl) ?_
    obtain ⟨q17, e_q17, h⟩ := md_ob h
    obtain ⟨hm18, hn18, h⟩ := cd_cks h
    have hM18 : p.2.2.1 ≤ (Sum.elim (fun (p : Int32 × cd_S × cd_B) => p.2.2) (fun (t : cd_S × cd_B) => t.2) q17).1 ∧ p.2.2.2 ≤ (Sum.elim (fun (p : Int32 × cd_S × cd_B) => p.2.2) (fun (t : cd_S × cd_B) => t.2) q17).2 := ⟨hm18, hn18⟩
    cases q17 with
    | inr t17 =>
      exact nomatch Option.some.inj h
    | inl p17 =>
      have hle17 := (kc_X4_needName l D cA E sz ad _ hj oq sgq sgv hE n p16.2 (p12.2.2)  p17 e_q17).1
      have hM10018 : p.2.2.1 ≤ p17.2.2.1 ∧ p.2.2.2 ≤ p17.2.2.2 := hM18
      have h := cd_inl h
      refine hp_callVv (As := []) (rest := []) cx hw ((kc_X4_needName l D cA E _ ad _ hj oq sgq sgv hE n p16.2 (p12.2.2)  p17 e_q17).2) (cwV 0 cx.2.2.2.2.2.1 (cd_giV cm_687 cm_688 cm_689 cm_663 cm_690) rfl rfl rfl hdc_X4_needName ⟨by (try dsimp only); omega, by (try dsimp only); omega⟩) (cd_atO hj (by decide) (by decide)) rfl rfl hl.1 rfl (Nat.le_of_ble_eq_true rfl) dX4_readLet_20 ⟨by (try dsimp only); omega, by (try dsimp only); omega⟩ (fun u H locs hp hw => ?_)
      obtain ⟨ca, hj, rfl⟩ := hp
      refine W.widen (k := b0.1 - p17.2.2.1) (n := b0.2 - p17.2.2.2) (by omega) (by omega) ?_
      refine lv_aload_n cx.1 cx.2.1 dX4_readLet_23 rfl (lv_at hl 1 rfl) ?_
      refine lv_aload_n cx.1 cx.2.1 dX4_readLet_24 rfl (lv_at hl 1 rfl) ?_
      refine cd_gI (o := 4) (k := 6) (f := 134) hj cx hw hic4 rfl ⟨by decide, rfl, by decide, rfl⟩ rfl (by decide) (List.mem_cons_of_mem _ cm_728) dX4_readLet_25 ?_
      refine lv_bipush (v := 12) cx.1 cx.2.1 dX4_readLet_28 (by decide) ?_
      refine lv_icmp_ge (tgt := 37) cx.1 cx.2.1 dX4_readLet_30 (by decide) (fun c30 => ?_) (fun c30 => ?_)
      · have h := md_ip c30 h
        refine lv_iconst (v := 0) cx.1 cx.2.1 dX4_readLet_37 (by decide) ?_
        exact J38 _ hj p17.2.1 (p17.2.2) a1 (p15.1) 0 _ _ _ (by omega) (by omega) (by omega) (by omega) h hw (lv_sub hl [1, 2, 0] rfl)
      · have h := md_in c30 h
        refine lv_iconst (v := 1) cx.1 cx.2.1 dX4_readLet_33 (by decide) ?_
        refine lv_goto (tgt := 38) cx.1 cx.2.1 dX4_readLet_34 (by decide) ?_
        exact J38 _ hj p17.2.1 (p17.2.2) a1 (p15.1) 1 _ _ _ (by omega) (by omega) (by omega) (by omega) h hw (lv_sub hl [1, 2, 0] rfl)
set_option maxHeartbeats 4000000 in
set_option maxRecDepth 100000 in
theorem kc_X4_readTry (l : Launch) (D : va_G) (cA : Nat → ClassId) (E : hp_N) (sz : Nat) (ad : Nat → Nat → Nat) (ca0 : Nat → Nat) (hj : cd_inj ad ca0) (oq sgq sgv : Nat) (hE : cd_E E oq sgq sgv) (n d : Nat) (rec : cd_R) (in2 : ∀ (sz : Nat) (ca : Nat → Nat) (_ : cd_inj ad ca) (σ : cd_S) (b : cd_B) (a1 : Int64) (a3 : Int32) (a4 : Int32) (p : Int32 × cd_S × cd_B), rec 2 a1 a3 a4 σ b = some (Sum.inl p) → (p.2.2.1 ≤ b.1 ∧ p.2.2.2 ≤ b.2) ∧ Met l yX4_readBound (Cond.code yX4_readBound cX4_readBound 5 none :: v_CLS) ({ frames := d + 16, cells := b.1 - p.2.2.1, slots := b.2 - p.2.2.2, locals := 26 * d + 286 }) (hp_Pc D vwCl (hp_Tl cA) E sz (cd_pic cA ad ca σ) [.ref (ad 4 0), .long a1, .int a3, .int a4]) (hp_Qv D vwCl (hp_Tl cA) sz (cd_pic cA ad ca σ) (fun u => ∃ ca1, cd_inj ad ca1 ∧ u = cd_pic cA ad ca1 p.2.1)) (b.1 - p.2.2.1) (b.2 - p.2.2.2) (hp_A (cd_pic cA ad ca σ) sz)) (in0 : ∀ (sz : Nat) (ca : Nat → Nat) (_ : cd_inj ad ca) (σ : cd_S) (b : cd_B) (a1 : Int32) (p : Int32 × cd_S × cd_B), rec 0 0 a1 0 σ b = some (Sum.inl p) → (p.2.2.1 ≤ b.1 ∧ p.2.2.2 ≤ b.2) ∧ Met l yX4_readExpression (Cond.code yX4_readExpression cX4_readExpression 2 none :: v_CLS) ({ frames := d + 16, cells := b.1 - p.2.2.1, slots := b.2 - p.2.2.2, locals := 26 * d + 286 }) (hp_Pc D vwCl (hp_Tl cA) E sz (cd_pic cA ad ca σ) [.ref (ad 4 0), .int a1]) (hp_Qv D vwCl (hp_Tl cA) sz (cd_pic cA ad ca σ) (fun u => ∃ ca1, cd_inj ad ca1 ∧ u = cd_pic cA ad ca1 p.2.1)) (b.1 - p.2.2.1) (b.2 - p.2.2.2) (hp_A (cd_pic cA ad ca σ) sz)) (σ0 : cd_S) (b0 : cd_B) (a1 : Int32) (p : (Int32 × cd_S × cd_B)) (h : f_X4_readTry n rec σ0 b0 a1 = some (Sum.inl p)) : (p.2.2.1 ≤ b0.1 ∧ p.2.2.2 ≤ b0.2) ∧ Met l yX4_readTry (Cond.code yX4_readTry cX4_readTry 7 none :: v_CLS) ({ frames := (d + 1) + 16, cells := b0.1 - p.2.2.1, slots := b0.2 - p.2.2.2, locals := 26 * (d + 1) + 286 }) (hp_Pc D vwCl (hp_Tl cA) E sz (cd_pic cA ad ca0 σ0) [.ref (ad 4 0), .int a1]) (hp_Qv D vwCl (hp_Tl cA) sz (cd_pic cA ad ca0 σ0) (fun u => ∃ ca1, cd_inj ad ca1 ∧ u = cd_pic cA ad ca1 p.2.1)) (b0.1 - p.2.2.1) (b0.2 - p.2.2.2) (hp_A (cd_pic cA ad ca0 σ0) sz) := by
  obtain ⟨hm0, hn0, h⟩ := cd_cks h
  have hM0 : p.2.2.1 ≤ b0.1 ∧ p.2.2.2 ≤ b0.2 := ⟨hm0, hn0⟩
  refine ⟨hM0, ?_⟩
  refine hp_ofW (cc := cX4_readTry) (maxL := 7) (ret := none) (by decide) rfl (Nat.le_of_ble_eq_true rfl) ?_
  intro pp ee ss mm bb mt cd ls cx hsz hw hl
  have hl : lv_has ls 7 [(0, .ref (ad 4 0)), (1, .int a1)] := hl
  refine W.widen (k := b0.1 - b0.1) (n := b0.2 - b0.2) (Nat.zero_le _) (Nat.zero_le _) ?_
  have J113 : ∀ (ca : Nat → Nat) (hj : cd_inj ad ca) (σ : cd_S) (b : cd_B) (l1 : Int32) (l3 : Int32) (l4 : Int32) (t0 : Int32) (H : Heap) (locs : List Loc) (ls : Array Slot), b.1 ≤ b0.1 → b.2 ≤ b0.2 → p.2.2.1 ≤ b.1 → p.2.2.2 ≤ b.2 → f_X4_readTry_J113 n rec σ b l1 l3 l4 t0 = some (Sum.inl p) → hp_w D vwCl (hp_Tl cA) E (hp_A (cd_pic cA ad ca0 σ0) sz) ss H locs (cd_pic cA ad ca σ) → lv_has ls 7 [(0, .ref (ad 4 0)), (1, .int l1), (3, .int l3), (4, .int l4)] → W pp l ee ({ frames := (d + 1) + 16, cells := b0.1 - p.2.2.1, slots := b0.2 - p.2.2.2, locals := 26 * (d + 1) + 286 }) ss mm [.ref (ad 4 0), .int a1].toArray bb mt cd H locs (b0.1 - b.1) (b0.2 - b.2) (MQ bb (hp_Qv D vwCl (hp_Tl cA) sz (cd_pic cA ad ca0 σ0) (fun u => ∃ ca1, cd_inj ad ca1 ∧ u = cd_pic cA ad ca1 p.2.1)) [.ref (ad 4 0), .int a1].toArray ss (b0.1 - p.2.2.1) (b0.2 - p.2.2.2) (hp_A (cd_pic cA ad ca0 σ0) sz)) (F0 mm 113 ls [.int t0, .ref (ad 4 0)]) := by
    intro ca hj σ b l1 l3 l4 t0 H locs ls hb1 hb2 hf1 hf2 h hw hl
    obtain ⟨q1, e_q1, h⟩ := md_ob h
    obtain ⟨hm2, hn2, h⟩ := cd_cks h
    have hM2 : p.2.2.1 ≤ (Sum.elim (fun (p : Int32 × cd_S × cd_B) => p.2.2) (fun (t : cd_S × cd_B) => t.2) q1).1 ∧ p.2.2.2 ≤ (Sum.elim (fun (p : Int32 × cd_S × cd_B) => p.2.2) (fun (t : cd_S × cd_B) => t.2) q1).2 := ⟨hm2, hn2⟩
    cases q1 with
    | inr t1 =>
      exact nomatch Option.some.inj h
    | inl p1 =>
      have hle1 := (kc_X4_room l D cA E sz ad _ hj oq sgq sgv hE n σ b t0 p1 e_q1).1
      have hM10002 : p.2.2.1 ≤ p1.2.2.1 ∧ p.2.2.2 ≤ p1.2.2.2 := hM2
      have h := cd_inl h
      refine hp_callVv (As := [.int t0]) (rest := []) cx hw ((kc_X4_room l D cA E _ ad _ hj oq sgq sgv hE n σ b t0 p1 e_q1).2) (cwV 1 cx.2.2.2.2.2.1 (cd_giV cm_691 cm_692 cm_693 cm_663 cm_694) rfl rfl rfl hdc_X4_room ⟨by (try dsimp only); omega, by (try dsimp only); omega⟩) (cd_atO hj (by decide) (by decide)) rfl rfl hl.1 rfl (Nat.le_of_ble_eq_true rfl) dX4_readTry_113 ⟨by (try dsimp only); omega, by (try dsimp only); omega⟩ (fun u H locs hp hw => ?_)
      obtain ⟨ca, hj, rfl⟩ := hp
      refine W.widen (k := b0.1 - p1.2.2.1) (n := b0.2 - p1.2.2.2) (by omega) (by omega) ?_
      refine lv_aload_n cx.1 cx.2.1 dX4_readTry_116 rfl (lv_at hl 0 rfl) ?_
      refine cd_gO (o2 := 10) (e2 := 0) (o := 4) (k := 0) (f := 128) hj cx hw hic4 rfl ⟨by decide, rfl, by decide, rfl⟩ rfl (by decide) ⟨rfl, rfl⟩ (List.mem_cons_of_mem _ cm_658) dX4_readTry_117 ?_
      refine cd_gJ (o := 10) (k := 10) (f := 330) hj cx hw hic10 rfl ⟨by decide, rfl, by decide, rfl⟩ rfl (by decide) (List.mem_cons_of_mem _ cm_695) dX4_readTry_120 ?_
      refine lv_lstore (lv' := [(5, .long (cJ p1.2.1 330 0)), (0, .ref (ad 4 0)), (1, .int l1), (3, .int l3), (4, .int l4)]) cx.1 cx.2.1 dX4_readTry_123 hl (by decide) rfl (fun ls hl => ?_)
      refine lv_aload_n cx.1 cx.2.1 dX4_readTry_125 rfl (lv_at hl 1 rfl) ?_
      refine cd_gO (o2 := 10) (e2 := 0) (o := 4) (k := 0) (f := 128) hj cx hw hic4 rfl ⟨by decide, rfl, by decide, rfl⟩ rfl (by decide) ⟨rfl, rfl⟩ (List.mem_cons_of_mem _ cm_658) dX4_readTry_126 ?_
      obtain ⟨p3, e_p3, h⟩ := md_ob h
      refine hp_callVv (As := []) (rest := []) cx hw (kc_X10_advance l D cA E _ ad _ hj oq sgq sgv hE n p1.2.1  p3 e_p3) (cwV 0 cx.2.2.2.2.2.1 (cd_giV cm_670 cm_671 cm_672 cm_301 cm_673) rfl rfl rfl hdc_X10_advance ⟨by (try dsimp only); omega, by (try dsimp only); omega⟩) (cd_atO hj (by decide) (by decide)) rfl rfl hl.1 rfl (Nat.le_of_ble_eq_true rfl) dX4_readTry_129 ⟨by (try dsimp only); omega, by (try dsimp only); omega⟩ (fun u H locs hp hw => ?_)
      obtain ⟨ca, hj, rfl⟩ := hp
      refine lv_aload_n cx.1 cx.2.1 dX4_readTry_132 rfl (lv_at hl 1 rfl) ?_
      refine lv_bipush (v := 58) cx.1 cx.2.1 dX4_readTry_133 (by decide) ?_
      obtain ⟨q4, e_q4, h⟩ := md_ob h
      obtain ⟨hm5, hn5, h⟩ := cd_cks h
      have hM5 : p.2.2.1 ≤ (Sum.elim (fun (p : Int32 × cd_S × cd_B) => p.2.2) (fun (t : cd_S × cd_B) => t.2) q4).1 ∧ p.2.2.2 ≤ (Sum.elim (fun (p : Int32 × cd_S × cd_B) => p.2.2) (fun (t : cd_S × cd_B) => t.2) q4).2 := ⟨hm5, hn5⟩
      cases q4 with
      | inr t4 =>
        exact nomatch Option.some.inj h
      | inl p4 =>
        have hle4 := (kc_X4_pass l D cA E sz ad _ hj oq sgq sgv hE n p3.2 (p1.2.2) (58 : Int32) p4 e_q4).1
        have hM10005 : p.2.2.1 ≤ p4.2.2.1 ∧ p.2.2.2 ≤ p4.2.2.2 := hM5
        have h := cd_inl h
        refine hp_callVv (As := [.int 58]) (rest := []) cx hw ((kc_X4_pass l D cA E _ ad _ hj oq sgq sgv hE n p3.2 (p1.2.2) (58 : Int32) p4 e_q4).2) (cwV 1 cx.2.2.2.2.2.1 (cd_giV cm_714 cm_715 cm_716 cm_663 cm_717) rfl rfl rfl hdc_X4_pass ⟨by (try dsimp only); omega, by (try dsimp only); omega⟩) (cd_atO hj (by decide) (by decide)) rfl rfl hl.1 rfl (Nat.le_of_ble_eq_true rfl) dX4_readTry_135 ⟨by (try dsimp only); omega, by (try dsimp only); omega⟩ (fun u H locs hp hw => ?_)
        obtain ⟨ca, hj, rfl⟩ := hp
        refine W.widen (k := b0.1 - p4.2.2.1) (n := b0.2 - p4.2.2.2) (by omega) (by omega) ?_
        refine lv_aload_n cx.1 cx.2.1 dX4_readTry_138 rfl (lv_at hl 1 rfl) ?_
        refine lv_lload cx.1 cx.2.1 dX4_readTry_139 (lv_at hl 0 rfl) ?_
        refine lv_iload cx.1 cx.2.1 dX4_readTry_141 (lv_at hl 4 rfl) ?_
        refine lv_iload_n cx.1 cx.2.1 dX4_readTry_143 rfl (lv_at hl 2 rfl) ?_
        obtain ⟨q6, e_q6, h⟩ := md_ob h
        obtain ⟨hm7, hn7, h⟩ := cd_cks h
        have hM7 : p.2.2.1 ≤ (Sum.elim (fun (p : Int32 × cd_S × cd_B) => p.2.2) (fun (t : cd_S × cd_B) => t.2) q6).1 ∧ p.2.2.2 ≤ (Sum.elim (fun (p : Int32 × cd_S × cd_B) => p.2.2) (fun (t : cd_S × cd_B) => t.2) q6).2 := ⟨hm7, hn7⟩
        cases q6 with
        | inr t6 =>
          exact nomatch Option.some.inj h
        | inl p6 =>
          have hle6 := (in2 sz _ hj p4.2.1 (p4.2.2) ((cJ p1.2.1 330 0)) l4 l1 p6 e_q6).1
          have hM10007 : p.2.2.1 ≤ p6.2.2.1 ∧ p.2.2.2 ≤ p6.2.2.2 := hM7
          have h := cd_inl h
          refine hp_callVv (As := [.long (cJ p1.2.1 330 0), .int l4, .int l1]) (rest := []) cx hw ((in2 _ _ hj p4.2.1 (p4.2.2) ((cJ p1.2.1 330 0)) l4 l1 p6 e_q6).2) (cwV 3 cx.2.2.2.2.2.1 (cd_giV cm_926 cm_927 cm_928 cm_663 cm_929) rfl rfl rfl hdc_X4_readBound ⟨by (try dsimp only); omega, by (try dsimp only); omega⟩) (cd_atO hj (by decide) (by decide)) rfl rfl hl.1 rfl (Nat.le_of_ble_eq_true rfl) dX4_readTry_144 ⟨by (try dsimp only); omega, by (try dsimp only); omega⟩ (fun u H locs hp hw => ?_)
          obtain ⟨ca, hj, rfl⟩ := hp
          refine W.widen (k := b0.1 - p6.2.2.1) (n := b0.2 - p6.2.2.2) (by omega) (by omega) ?_
          refine lv_aload_n cx.1 cx.2.1 dX4_readTry_147 rfl (lv_at hl 1 rfl) ?_
          obtain ⟨u8, e_u8, h⟩ := md_ob h
          have hb_u8 : u8 < 60 := (cd_dps e_u8).2
          refine cd_gP (o2 := 9) (u := u8) (o := 4) (k := 8) (f := 136) hj cx hw hic4 rfl ⟨by decide, rfl, by decide, rfl⟩ rfl (by decide) rfl e_u8 (List.mem_cons_of_mem _ cm_749) dX4_readTry_148 ?_
          refine lv_bipush (v := 100) cx.1 cx.2.1 dX4_readTry_151 (by decide) ?_
          refine lv_iload_n cx.1 cx.2.1 dX4_readTry_153 rfl (lv_at hl 3 rfl) ?_
          refine lv_iconst (v := 0) cx.1 cx.2.1 dX4_readTry_154 (by decide) ?_
          obtain ⟨p9, e_p9, h⟩ := md_ob h
          obtain ⟨hm10, hn10, h⟩ := cd_cks h
          have hM10 : p.2.2.1 ≤ p9.2.2.1 ∧ p.2.2.2 ≤ p9.2.2.2 := ⟨hm10, hn10⟩
          have hle9 := (kc_X9_emit l D cA E sz ad _ hj oq sgq sgv hE n p6.2.1 (p6.2.2) u8 (100 : Int32) l3 (0 : Int32) (show _ < 60 by omega) p9 e_p9).1
          refine hp_callVv (As := [.int 100, .int l3, .int 0]) (rest := []) cx hw ((kc_X9_emit l D cA E _ ad _ hj oq sgq sgv hE n p6.2.1 (p6.2.2) u8 (100 : Int32) l3 (0 : Int32) (show _ < 60 by omega) p9 e_p9).2) (cwV 3 cx.2.2.2.2.2.1 (cd_giV cm_781 cm_782 cm_783 cm_114 cm_784) rfl rfl rfl hdc_X9_emit ⟨by (try dsimp only); omega, by (try dsimp only); omega⟩) (cd_atO hj (by decide) (show _ < 60 by omega)) rfl rfl hl.1 rfl (Nat.le_of_ble_eq_true rfl) dX4_readTry_155 ⟨by (try dsimp only); omega, by (try dsimp only); omega⟩ (fun u H locs hp hw => ?_)
          obtain ⟨ca, hj, rfl⟩ := hp
          refine W.widen (k := b0.1 - p9.2.2.1) (n := b0.2 - p9.2.2.2) (by omega) (by omega) ?_
          exact hp_vret cx hw ((cd_retb hj (congrArg some (Sum.inl.inj (Option.some.inj h)))).2) dX4_readTry_158 (cd_le1 (congrArg some (Sum.inl.inj (Option.some.inj h)))) (cd_le2 (congrArg some (Sum.inl.inj (Option.some.inj h))))
  refine lv_aload_n cx.1 cx.2.1 dX4_readTry_0 rfl (lv_at hl 0 rfl) ?_
  obtain ⟨q11, e_q11, h⟩ := md_ob h
  obtain ⟨hm12, hn12, h⟩ := cd_cks h
  have hM12 : p.2.2.1 ≤ (Sum.elim (fun (p : Int32 × cd_S × cd_B) => p.2.2) (fun (t : cd_S × cd_B) => t.2) q11).1 ∧ p.2.2.2 ≤ (Sum.elim (fun (p : Int32 × cd_S × cd_B) => p.2.2) (fun (t : cd_S × cd_B) => t.2) q11).2 := ⟨hm12, hn12⟩
  cases q11 with
  | inr t11 =>
    exact nomatch Option.some.inj h
  | inl p11 =>
    have hle11 := (kc_X4_part l D cA E sz ad _ hj oq sgq sgv hE n σ0 b0  p11 e_q11).1
    have hM10012 : p.2.2.1 ≤ p11.2.2.1 ∧ p.2.2.2 ≤ p11.2.2.2 := hM12
    have h := cd_inl h
    refine hp_callVv (As := []) (rest := []) cx hw ((kc_X4_part l D cA E _ ad _ hj oq sgq sgv hE n σ0 b0  p11 e_q11).2) (cwV 0 cx.2.2.2.2.2.1 (cd_giV cm_764 cm_765 cm_766 cm_663 cm_767) rfl rfl rfl hdc_X4_part ⟨by (try dsimp only); omega, by (try dsimp only); omega⟩) (cd_atO hj (by decide) (by decide)) rfl rfl hl.1 rfl (Nat.le_of_ble_eq_true rfl) dX4_readTry_1 ⟨by (try dsimp only); omega, by (try dsimp only); omega⟩ (fun u H locs hp hw => ?_)
    obtain ⟨ca, hj, rfl⟩ := hp
    refine W.widen (k := b0.1 - p11.2.2.1) (n := b0.2 - p11.2.2.2) (by omega) (by omega) ?_
    refine lv_aload_n cx.1 cx.2.1 dX4_readTry_4 rfl (lv_at hl 0 rfl) ?_
    obtain ⟨u13, e_u13, h⟩ := md_ob h
    have hb_u13 : u13 < 60 := (cd_dps e_u13).2
    refine cd_gP (o2 := 9) (u := u13) (o := 4) (k := 8) (f := 136) hj cx hw hic4 rfl ⟨by decide, rfl, by decide, rfl⟩ rfl (by decide) rfl e_u13 (List.mem_cons_of_mem _ cm_749) dX4_readTry_5 ?_
    obtain ⟨p14, e_p14, h⟩ := md_ob h
    refine hp_callVi (As := []) (rest := []) cx hw (kc_X9_addLabel l D cA E _ ad _ hj oq sgq sgv hE n p11.2.1 u13 (show _ < 60 by omega) p14 e_p14) (cwV 0 cx.2.2.2.2.2.1 (cd_giV cm_922 cm_923 cm_924 cm_114 cm_925) rfl rfl rfl hdc_X9_addLabel ⟨by (try dsimp only); omega, by (try dsimp only); omega⟩) (cd_atO hj (by decide) (show _ < 60 by omega)) rfl rfl hl.1 rfl (Nat.le_of_ble_eq_true rfl) dX4_readTry_8 ⟨by (try dsimp only); omega, by (try dsimp only); omega⟩ (fun r u H locs hp hw => ?_)
    obtain ⟨rfl, ca, hj, rfl⟩ := hp
    refine lv_istore_n (lv' := [(2, .int p14.1), (0, .ref (ad 4 0)), (1, .int a1)]) cx.1 cx.2.1 dX4_readTry_11 rfl hl (by decide) rfl (fun ls hl => ?_)
    refine lv_aload_n cx.1 cx.2.1 dX4_readTry_12 rfl (lv_at hl 1 rfl) ?_
    obtain ⟨u15, e_u15, h⟩ := md_ob h
    have hb_u15 : u15 < 60 := (cd_dps e_u15).2
    refine cd_gP (o2 := 9) (u := u15) (o := 4) (k := 8) (f := 136) hj cx hw hic4 rfl ⟨by decide, rfl, by decide, rfl⟩ rfl (by decide) rfl e_u15 (List.mem_cons_of_mem _ cm_749) dX4_readTry_13 ?_
    obtain ⟨p16, e_p16, h⟩ := md_ob h
    refine hp_callVi (As := []) (rest := []) cx hw (kc_X9_addLabel l D cA E _ ad _ hj oq sgq sgv hE n p14.2 u15 (show _ < 60 by omega) p16 e_p16) (cwV 0 cx.2.2.2.2.2.1 (cd_giV cm_922 cm_923 cm_924 cm_114 cm_925) rfl rfl rfl hdc_X9_addLabel ⟨by (try dsimp only); omega, by (try dsimp only); omega⟩) (cd_atO hj (by decide) (show _ < 60 by omega)) rfl rfl hl.1 rfl (Nat.le_of_ble_eq_true rfl) dX4_readTry_16 ⟨by (try dsimp only); omega, by (try dsimp only); omega⟩ (fun r u H locs hp hw => ?_)
    obtain ⟨rfl, ca, hj, rfl⟩ := hp
    refine lv_istore_n (lv' := [(3, .int p16.1), (2, .int p14.1), (0, .ref (ad 4 0)), (1, .int a1)]) cx.1 cx.2.1 dX4_readTry_19 rfl hl (by decide) rfl (fun ls hl => ?_)
    refine lv_aload_n cx.1 cx.2.1 dX4_readTry_20 rfl (lv_at hl 2 rfl) ?_
    obtain ⟨u17, e_u17, h⟩ := md_ob h
    have hb_u17 : u17 < 60 := (cd_dps e_u17).2
    refine cd_gP (o2 := 9) (u := u17) (o := 4) (k := 8) (f := 136) hj cx hw hic4 rfl ⟨by decide, rfl, by decide, rfl⟩ rfl (by decide) rfl e_u17 (List.mem_cons_of_mem _ cm_749) dX4_readTry_21 ?_
    refine lv_bipush (v := 19) cx.1 cx.2.1 dX4_readTry_24 (by decide) ?_
    refine lv_iload_n cx.1 cx.2.1 dX4_readTry_26 rfl (lv_at hl 1 rfl) ?_
    refine lv_iconst (v := 0) cx.1 cx.2.1 dX4_readTry_27 (by decide) ?_
    obtain ⟨p18, e_p18, h⟩ := md_ob h
    obtain ⟨hm19, hn19, h⟩ := cd_cks h
    have hM19 : p.2.2.1 ≤ p18.2.2.1 ∧ p.2.2.2 ≤ p18.2.2.2 := ⟨hm19, hn19⟩
    have hle18 := (kc_X9_emit l D cA E sz ad _ hj oq sgq sgv hE n p16.2 (p11.2.2) u17 (19 : Int32) (p14.1) (0 : Int32) (show _ < 60 by omega) p18 e_p18).1
    refine hp_callVv (As := [.int 19, .int p14.1, .int 0]) (rest := []) cx hw ((kc_X9_emit l D cA E _ ad _ hj oq sgq sgv hE n p16.2 (p11.2.2) u17 (19 : Int32) (p14.1) (0 : Int32) (show _ < 60 by omega) p18 e_p18).2) (cwV 3 cx.2.2.2.2.2.1 (cd_giV cm_781 cm_782 cm_783 cm_114 cm_784) rfl rfl rfl hdc_X9_emit ⟨by (try dsimp only); omega, by (try dsimp only); omega⟩) (cd_atO hj (by decide) (show _ < 60 by omega)) rfl rfl hl.1 rfl (Nat.le_of_ble_eq_true rfl) dX4_readTry_28 ⟨by (try dsimp only); omega, by (try dsimp only); omega⟩ (fun u H locs hp hw => ?_)
    obtain ⟨ca, hj, rfl⟩ := hp
    refine W.widen (k := b0.1 - p18.2.2.1) (n := b0.2 - p18.2.2.2) (by omega) (by omega) ?_
    refine lv_aload_n cx.1 cx.2.1 dX4_readTry_31 rfl (lv_at hl 2 rfl) ?_
    refine cd_gO (o2 := 10) (e2 := 0) (o := 4) (k := 0) (f := 128) hj cx hw hic4 rfl ⟨by decide, rfl, by decide, rfl⟩ rfl (by decide) ⟨rfl, rfl⟩ (List.mem_cons_of_mem _ cm_658) dX4_readTry_32 ?_
    obtain ⟨p20, e_p20, h⟩ := md_ob h
    refine hp_callVv (As := []) (rest := []) cx hw (kc_X10_advance l D cA E _ ad _ hj oq sgq sgv hE n p18.2.1  p20 e_p20) (cwV 0 cx.2.2.2.2.2.1 (cd_giV cm_670 cm_671 cm_672 cm_301 cm_673) rfl rfl rfl hdc_X10_advance ⟨by (try dsimp only); omega, by (try dsimp only); omega⟩) (cd_atO hj (by decide) (by decide)) rfl rfl hl.1 rfl (Nat.le_of_ble_eq_true rfl) dX4_readTry_35 ⟨by (try dsimp only); omega, by (try dsimp only); omega⟩ (fun u H locs hp hw => ?_)
    obtain ⟨ca, hj, rfl⟩ := hp
    refine lv_aload_n cx.1 cx.2.1 dX4_readTry_38 rfl (lv_at hl 2 rfl) ?_
    refine lv_iload_n cx.1 cx.2.1 dX4_readTry_39 rfl (lv_at hl 3 rfl) ?_
    refine lv_iconst (v := 1) cx.1 cx.2.1 dX4_readTry_40 (by decide) ?_
    refine lv_iadd cx.1 cx.2.1 dX4_readTry_41 ?_
    obtain ⟨q21, e_q21, h⟩ := md_ob h
    obtain ⟨hm22, hn22, h⟩ := cd_cks h
    have hM22 : p.2.2.1 ≤ (Sum.elim (fun (p : Int32 × cd_S × cd_B) => p.2.2) (fun (t : cd_S × cd_B) => t.2) q21).1 ∧ p.2.2.2 ≤ (Sum.elim (fun (p : Int32 × cd_S × cd_B) => p.2.2) (fun (t : cd_S × cd_B) => t.2) q21).2 := ⟨hm22, hn22⟩
    cases q21 with
    | inr t21 =>
      exact nomatch Option.some.inj h
    | inl p21 =>
      have hle21 := (in0 sz _ hj p20.2 (p18.2.2) ((a1 + 1)) p21 e_q21).1
      have hM10022 : p.2.2.1 ≤ p21.2.2.1 ∧ p.2.2.2 ≤ p21.2.2.2 := hM22
      have h := cd_inl h
      refine hp_callVv (As := [.int (a1 + 1)]) (rest := []) cx hw ((in0 _ _ hj p20.2 (p18.2.2) ((a1 + 1)) p21 e_q21).2) (cwV 1 cx.2.2.2.2.2.1 (cd_giV cm_760 cm_761 cm_762 cm_663 cm_763) rfl rfl rfl hdc_X4_readExpression ⟨by (try dsimp only); omega, by (try dsimp only); omega⟩) (cd_atO hj (by decide) (by decide)) rfl rfl hl.1 rfl (Nat.le_of_ble_eq_true rfl) dX4_readTry_42 ⟨by (try dsimp only); omega, by (try dsimp only); omega⟩ (fun u H locs hp hw => ?_)
      obtain ⟨ca, hj, rfl⟩ := hp
      refine W.widen (k := b0.1 - p21.2.2.1) (n := b0.2 - p21.2.2.2) (by omega) (by omega) ?_
      refine lv_aload_n cx.1 cx.2.1 dX4_readTry_45 rfl (lv_at hl 2 rfl) ?_
      obtain ⟨u23, e_u23, h⟩ := md_ob h
      have hb_u23 : u23 < 60 := (cd_dps e_u23).2
      refine cd_gP (o2 := 9) (u := u23) (o := 4) (k := 8) (f := 136) hj cx hw hic4 rfl ⟨by decide, rfl, by decide, rfl⟩ rfl (by decide) rfl e_u23 (List.mem_cons_of_mem _ cm_749) dX4_readTry_46 ?_
      refine lv_bipush (v := 20) cx.1 cx.2.1 dX4_readTry_49 (by decide) ?_
      refine lv_iconst (v := 0) cx.1 cx.2.1 dX4_readTry_51 (by decide) ?_
      refine lv_iconst (v := 0) cx.1 cx.2.1 dX4_readTry_52 (by decide) ?_
      obtain ⟨p24, e_p24, h⟩ := md_ob h
      obtain ⟨hm25, hn25, h⟩ := cd_cks h
      have hM25 : p.2.2.1 ≤ p24.2.2.1 ∧ p.2.2.2 ≤ p24.2.2.2 := ⟨hm25, hn25⟩
      have hle24 := (kc_X9_emit l D cA E sz ad _ hj oq sgq sgv hE n p21.2.1 (p21.2.2) u23 (20 : Int32) (0 : Int32) (0 : Int32) (show _ < 60 by omega) p24 e_p24).1
      refine hp_callVv (As := [.int 20, .int 0, .int 0]) (rest := []) cx hw ((kc_X9_emit l D cA E _ ad _ hj oq sgq sgv hE n p21.2.1 (p21.2.2) u23 (20 : Int32) (0 : Int32) (0 : Int32) (show _ < 60 by omega) p24 e_p24).2) (cwV 3 cx.2.2.2.2.2.1 (cd_giV cm_781 cm_782 cm_783 cm_114 cm_784) rfl rfl rfl hdc_X9_emit ⟨by (try dsimp only); omega, by (try dsimp only); omega⟩) (cd_atO hj (by decide) (show _ < 60 by omega)) rfl rfl hl.1 rfl (Nat.le_of_ble_eq_true rfl) dX4_readTry_53 ⟨by (try dsimp only); omega, by (try dsimp only); omega⟩ (fun u H locs hp hw => ?_)
      obtain ⟨ca, hj, rfl⟩ := hp
      refine W.widen (k := b0.1 - p24.2.2.1) (n := b0.2 - p24.2.2.2) (by omega) (by omega) ?_
      refine lv_aload_n cx.1 cx.2.1 dX4_readTry_56 rfl (lv_at hl 2 rfl) ?_
      obtain ⟨u26, e_u26, h⟩ := md_ob h
      have hb_u26 : u26 < 60 := (cd_dps e_u26).2
      refine cd_gP (o2 := 9) (u := u26) (o := 4) (k := 8) (f := 136) hj cx hw hic4 rfl ⟨by decide, rfl, by decide, rfl⟩ rfl (by decide) rfl e_u26 (List.mem_cons_of_mem _ cm_749) dX4_readTry_57 ?_
      refine lv_bipush (v := 17) cx.1 cx.2.1 dX4_readTry_60 (by decide) ?_
      refine lv_iload_n cx.1 cx.2.1 dX4_readTry_62 rfl (lv_at hl 0 rfl) ?_
      refine lv_iconst (v := 0) cx.1 cx.2.1 dX4_readTry_63 (by decide) ?_
      obtain ⟨p27, e_p27, h⟩ := md_ob h
      obtain ⟨hm28, hn28, h⟩ := cd_cks h
      have hM28 : p.2.2.1 ≤ p27.2.2.1 ∧ p.2.2.2 ≤ p27.2.2.2 := ⟨hm28, hn28⟩
      have hle27 := (kc_X9_emit l D cA E sz ad _ hj oq sgq sgv hE n p24.2.1 (p24.2.2) u26 (17 : Int32) (p16.1) (0 : Int32) (show _ < 60 by omega) p27 e_p27).1
      refine hp_callVv (As := [.int 17, .int p16.1, .int 0]) (rest := []) cx hw ((kc_X9_emit l D cA E _ ad _ hj oq sgq sgv hE n p24.2.1 (p24.2.2) u26 (17 : Int32) (p16.1) (0 : Int32) (show _ < 60 by omega) p27 e_p27).2) (cwV 3 cx.2.2.2.2.2.1 (cd_giV cm_781 cm_782 cm_783 cm_114 cm_784) rfl rfl rfl hdc_X9_emit ⟨by (try dsimp only); omega, by (try dsimp only); omega⟩) (cd_atO hj (by decide) (show _ < 60 by omega)) rfl rfl hl.1 rfl (Nat.le_of_ble_eq_true rfl) dX4_readTry_64 ⟨by (try dsimp only); omega, by (try dsimp only); omega⟩ (fun u H locs hp hw => ?_)
      obtain ⟨ca, hj, rfl⟩ := hp
      refine W.widen (k := b0.1 - p27.2.2.1) (n := b0.2 - p27.2.2.2) (by omega) (by omega) ?_
      refine lv_aload_n cx.1 cx.2.1 dX4_readTry_67 rfl (lv_at hl 2 rfl) ?_
      obtain ⟨u29, e_u29, h⟩ := md_ob h
      have hb_u29 : u29 < 60 := (cd_dps e_u29).2
      refine cd_gP (o2 := 9) (u := u29) (o := 4) (k := 8) (f := 136) hj cx hw hic4 rfl ⟨by decide, rfl, by decide, rfl⟩ rfl (by decide) rfl e_u29 (List.mem_cons_of_mem _ cm_749) dX4_readTry_68 ?_
      refine lv_bipush (v := 100) cx.1 cx.2.1 dX4_readTry_71 (by decide) ?_
      refine lv_iload_n cx.1 cx.2.1 dX4_readTry_73 rfl (lv_at hl 1 rfl) ?_
      refine lv_iconst (v := 0) cx.1 cx.2.1 dX4_readTry_74 (by decide) ?_
      obtain ⟨p30, e_p30, h⟩ := md_ob h
      obtain ⟨hm31, hn31, h⟩ := cd_cks h
      have hM31 : p.2.2.1 ≤ p30.2.2.1 ∧ p.2.2.2 ≤ p30.2.2.2 := ⟨hm31, hn31⟩
      have hle30 := (kc_X9_emit l D cA E sz ad _ hj oq sgq sgv hE n p27.2.1 (p27.2.2) u29 (100 : Int32) (p14.1) (0 : Int32) (show _ < 60 by omega) p30 e_p30).1
      refine hp_callVv (As := [.int 100, .int p14.1, .int 0]) (rest := []) cx hw ((kc_X9_emit l D cA E _ ad _ hj oq sgq sgv hE n p27.2.1 (p27.2.2) u29 (100 : Int32) (p14.1) (0 : Int32) (show _ < 60 by omega) p30 e_p30).2) (cwV 3 cx.2.2.2.2.2.1 (cd_giV cm_781 cm_782 cm_783 cm_114 cm_784) rfl rfl rfl hdc_X9_emit ⟨by (try dsimp only); omega, by (try dsimp only); omega⟩) (cd_atO hj (by decide) (show _ < 60 by omega)) rfl rfl hl.1 rfl (Nat.le_of_ble_eq_true rfl) dX4_readTry_75 ⟨by (try dsimp only); omega, by (try dsimp only); omega⟩ (fun u H locs hp hw => ?_)
      obtain ⟨ca, hj, rfl⟩ := hp
      refine W.widen (k := b0.1 - p30.2.2.1) (n := b0.2 - p30.2.2.2) (by omega) (by omega) ?_
      refine lv_aload_n cx.1 cx.2.1 dX4_readTry_78 rfl (lv_at hl 2 rfl) ?_
      refine lv_sipush (v := 219) cx.1 cx.2.1 dX4_readTry_79 (by decide) ?_
      obtain ⟨q32, e_q32, h⟩ := md_ob h
      obtain ⟨hm33, hn33, h⟩ := cd_cks h
      have hM33 : p.2.2.1 ≤ (Sum.elim (fun (p : Int32 × cd_S × cd_B) => p.2.2) (fun (t : cd_S × cd_B) => t.2) q32).1 ∧ p.2.2.2 ≤ (Sum.elim (fun (p : Int32 × cd_S × cd_B) => p.2.2) (fun (t : cd_S × cd_B) => t.2) q32).2 := ⟨hm33, hn33⟩
      cases q32 with
      | inr t32 =>
        exact nomatch Option.some.inj h
      | inl p32 =>
        have hle32 := (kc_X4_pass l D cA E sz ad _ hj oq sgq sgv hE n p30.2.1 (p30.2.2) (219 : Int32) p32 e_q32).1
        have hM10033 : p.2.2.1 ≤ p32.2.2.1 ∧ p.2.2.2 ≤ p32.2.2.2 := hM33
        have h := cd_inl h
        refine hp_callVv (As := [.int 219]) (rest := []) cx hw ((kc_X4_pass l D cA E _ ad _ hj oq sgq sgv hE n p30.2.1 (p30.2.2) (219 : Int32) p32 e_q32).2) (cwV 1 cx.2.2.2.2.2.1 (cd_giV cm_714 cm_715 cm_716 cm_663 cm_717) rfl rfl rfl hdc_X4_pass ⟨by (try dsimp only); omega, by (try dsimp only); omega⟩) (cd_atO hj (by decide) (by decide)) rfl rfl hl.1 rfl (Nat.le_of_ble_eq_true rfl) dX4_readTry_82 ⟨by (try dsimp only); omega, by (try dsimp only); omega⟩ (fun u H locs hp hw => ?_)
        obtain ⟨ca, hj, rfl⟩ := hp
        refine W.widen (k := b0.1 - p32.2.2.1) (n := b0.2 - p32.2.2.2) (by omega) (by omega) ?_
        refine lv_aload_n cx.1 cx.2.1 dX4_readTry_85 rfl (lv_at hl 2 rfl) ?_
        obtain ⟨u34, e_u34, h⟩ := md_ob h
        have hb_u34 : u34 < 60 := (cd_dps e_u34).2
        refine cd_gP (o2 := 9) (u := u34) (o := 4) (k := 8) (f := 136) hj cx hw hic4 rfl ⟨by decide, rfl, by decide, rfl⟩ rfl (by decide) rfl e_u34 (List.mem_cons_of_mem _ cm_749) dX4_readTry_86 ?_
        obtain ⟨p35, e_p35, h⟩ := md_ob h
        refine hp_callVi (As := []) (rest := []) cx hw (kc_X9_addOwn l D cA E _ ad _ hj oq sgq sgv hE n p32.2.1 u34 (show _ < 60 by omega) p35 e_p35) (cwV 0 cx.2.2.2.2.2.1 (cd_giV cm_798 cm_799 cm_800 cm_114 cm_801) rfl rfl rfl hdc_X9_addOwn ⟨by (try dsimp only); omega, by (try dsimp only); omega⟩) (cd_atO hj (by decide) (show _ < 60 by omega)) rfl rfl hl.1 rfl (Nat.le_of_ble_eq_true rfl) dX4_readTry_89 ⟨by (try dsimp only); omega, by (try dsimp only); omega⟩ (fun r u H locs hp hw => ?_)
        obtain ⟨rfl, ca, hj, rfl⟩ := hp
        refine lv_istore (lv' := [(4, .int p35.1), (3, .int p16.1), (2, .int p14.1), (0, .ref (ad 4 0)), (1, .int a1)]) cx.1 cx.2.1 dX4_readTry_92 hl (by decide) rfl (fun ls hl => ?_)
        refine lv_aload_n cx.1 cx.2.1 dX4_readTry_94 rfl (lv_at hl 3 rfl) ?_
        obtain ⟨q36, e_q36, h⟩ := md_ob h
        obtain ⟨hm37, hn37, h⟩ := cd_cks h
        have hM37 : p.2.2.1 ≤ (Sum.elim (fun (p : Int32 × cd_S × cd_B) => p.2.2) (fun (t : cd_S × cd_B) => t.2) q36).1 ∧ p.2.2.2 ≤ (Sum.elim (fun (p : Int32 × cd_S × cd_B) => p.2.2) (fun (t : cd_S × cd_B) => t.2) q36).2 := ⟨hm37, hn37⟩
        cases q36 with
        | inr t36 =>
          exact nomatch Option.some.inj h
        | inl p36 =>
          have hle36 := (kc_X4_needName l D cA E sz ad _ hj oq sgq sgv hE n p35.2 (p32.2.2)  p36 e_q36).1
          have hM10037 : p.2.2.1 ≤ p36.2.2.1 ∧ p.2.2.2 ≤ p36.2.2.2 := hM37
          have h := cd_inl h
          refine hp_callVv (As := []) (rest := []) cx hw ((kc_X4_needName l D cA E _ ad _ hj oq sgq sgv hE n p35.2 (p32.2.2)  p36 e_q36).2) (cwV 0 cx.2.2.2.2.2.1 (cd_giV cm_687 cm_688 cm_689 cm_663 cm_690) rfl rfl rfl hdc_X4_needName ⟨by (try dsimp only); omega, by (try dsimp only); omega⟩) (cd_atO hj (by decide) (by decide)) rfl rfl hl.1 rfl (Nat.le_of_ble_eq_true rfl) dX4_readTry_95 ⟨by (try dsimp only); omega, by (try dsimp only); omega⟩ (fun u H locs hp hw => ?_)
          obtain ⟨ca, hj, rfl⟩ := hp
          refine W.widen (k := b0.1 - p36.2.2.1) (n := b0.2 - p36.2.2.2) (by omega) (by omega) ?_
          refine lv_aload_n cx.1 cx.2.1 dX4_readTry_98 rfl (lv_at hl 3 rfl) ?_
          refine lv_aload_n cx.1 cx.2.1 dX4_readTry_99 rfl (lv_at hl 3 rfl) ?_
          refine cd_gI (o := 4) (k := 6) (f := 134) hj cx hw hic4 rfl ⟨by decide, rfl, by decide, rfl⟩ rfl (by decide) (List.mem_cons_of_mem _ cm_728) dX4_readTry_100 ?_
          refine lv_bipush (v := 12) cx.1 cx.2.1 dX4_readTry_103 (by decide) ?_
          refine lv_icmp_ge (tgt := 112) cx.1 cx.2.1 dX4_readTry_105 (by decide) (fun c105 => ?_) (fun c105 => ?_)
          · have h := md_ip c105 h
            refine lv_iconst (v := 0) cx.1 cx.2.1 dX4_readTry_112 (by decide) ?_
            exact J113 _ hj p36.2.1 (p36.2.2) a1 (p16.1) (p35.1) 0 _ _ _ (by omega) (by omega) (by omega) (by omega) h hw (lv_sub hl [3, 4, 1, 0] rfl)
          · have h := md_in c105 h
            refine lv_iconst (v := 1) cx.1 cx.2.1 dX4_readTry_108 (by decide) ?_
            refine lv_goto (tgt := 113) cx.1 cx.2.1 dX4_readTry_109 (by decide) ?_
            exact J113 _ hj p36.2.1 (p36.2.2) a1 (p16.1) (p35.1) 1 _ _ _ (by omega) (by omega) (by omega) (by omega) h hw (lv_sub hl [3, 4, 1, 0] rfl)
set_option maxHeartbeats 4000000 in
set_option maxRecDepth 100000 in
theorem kc_X4_readExpression (l : Launch) (D : va_G) (cA : Nat → ClassId) (E : hp_N) (sz : Nat) (ad : Nat → Nat → Nat) (ca0 : Nat → Nat) (hj : cd_inj ad ca0) (oq sgq sgv : Nat) (hE : cd_E E oq sgq sgv) (n d : Nat) (rec : cd_R) (in5 : ∀ (sz : Nat) (ca : Nat → Nat) (_ : cd_inj ad ca) (σ : cd_S) (b : cd_B) (a1 : Int32) (p : Int32 × cd_S × cd_B), rec 5 0 a1 0 σ b = some (Sum.inl p) → (p.2.2.1 ≤ b.1 ∧ p.2.2.2 ≤ b.2) ∧ Met l yX4_readComparison (Cond.code yX4_readComparison cX4_readComparison 3 none :: v_CLS) ({ frames := d + 16, cells := b.1 - p.2.2.1, slots := b.2 - p.2.2.2, locals := 26 * d + 286 }) (hp_Pc D vwCl (hp_Tl cA) E sz (cd_pic cA ad ca σ) [.ref (ad 4 0), .int a1]) (hp_Qv D vwCl (hp_Tl cA) sz (cd_pic cA ad ca σ) (fun u => ∃ ca1, cd_inj ad ca1 ∧ u = cd_pic cA ad ca1 p.2.1)) (b.1 - p.2.2.1) (b.2 - p.2.2.2) (hp_A (cd_pic cA ad ca σ) sz)) (in3 : ∀ (sz : Nat) (ca : Nat → Nat) (_ : cd_inj ad ca) (σ : cd_S) (b : cd_B) (a1 : Int32) (p : Int32 × cd_S × cd_B), rec 3 0 a1 0 σ b = some (Sum.inl p) → (p.2.2.1 ≤ b.1 ∧ p.2.2.2 ≤ b.2) ∧ Met l yX4_readIf (Cond.code yX4_readIf cX4_readIf 4 none :: v_CLS) ({ frames := d + 16, cells := b.1 - p.2.2.1, slots := b.2 - p.2.2.2, locals := 26 * d + 286 }) (hp_Pc D vwCl (hp_Tl cA) E sz (cd_pic cA ad ca σ) [.ref (ad 4 0), .int a1]) (hp_Qv D vwCl (hp_Tl cA) sz (cd_pic cA ad ca σ) (fun u => ∃ ca1, cd_inj ad ca1 ∧ u = cd_pic cA ad ca1 p.2.1)) (b.1 - p.2.2.1) (b.2 - p.2.2.2) (hp_A (cd_pic cA ad ca σ) sz)) (in1 : ∀ (sz : Nat) (ca : Nat → Nat) (_ : cd_inj ad ca) (σ : cd_S) (b : cd_B) (a1 : Int32) (p : Int32 × cd_S × cd_B), rec 1 0 a1 0 σ b = some (Sum.inl p) → (p.2.2.1 ≤ b.1 ∧ p.2.2.2 ≤ b.2) ∧ Met l yX4_readLet (Cond.code yX4_readLet cX4_readLet 5 none :: v_CLS) ({ frames := d + 16, cells := b.1 - p.2.2.1, slots := b.2 - p.2.2.2, locals := 26 * d + 286 }) (hp_Pc D vwCl (hp_Tl cA) E sz (cd_pic cA ad ca σ) [.ref (ad 4 0), .int a1]) (hp_Qv D vwCl (hp_Tl cA) sz (cd_pic cA ad ca σ) (fun u => ∃ ca1, cd_inj ad ca1 ∧ u = cd_pic cA ad ca1 p.2.1)) (b.1 - p.2.2.1) (b.2 - p.2.2.2) (hp_A (cd_pic cA ad ca σ) sz)) (in4 : ∀ (sz : Nat) (ca : Nat → Nat) (_ : cd_inj ad ca) (σ : cd_S) (b : cd_B) (a1 : Int32) (p : Int32 × cd_S × cd_B), rec 4 0 a1 0 σ b = some (Sum.inl p) → (p.2.2.1 ≤ b.1 ∧ p.2.2.2 ≤ b.2) ∧ Met l yX4_readTry (Cond.code yX4_readTry cX4_readTry 7 none :: v_CLS) ({ frames := d + 16, cells := b.1 - p.2.2.1, slots := b.2 - p.2.2.2, locals := 26 * d + 286 }) (hp_Pc D vwCl (hp_Tl cA) E sz (cd_pic cA ad ca σ) [.ref (ad 4 0), .int a1]) (hp_Qv D vwCl (hp_Tl cA) sz (cd_pic cA ad ca σ) (fun u => ∃ ca1, cd_inj ad ca1 ∧ u = cd_pic cA ad ca1 p.2.1)) (b.1 - p.2.2.1) (b.2 - p.2.2.2) (hp_A (cd_pic cA ad ca σ) sz)) (σ0 : cd_S) (b0 : cd_B) (a1 : Int32) (p : (Int32 × cd_S × cd_B)) (h : f_X4_readExpression n rec σ0 b0 a1 = some (Sum.inl p)) : (p.2.2.1 ≤ b0.1 ∧ p.2.2.2 ≤ b0.2) ∧ Met l yX4_readExpression (Cond.code yX4_readExpression cX4_readExpression 2 none :: v_CLS) ({ frames := (d + 1) + 16, cells := b0.1 - p.2.2.1, slots := b0.2 - p.2.2.2, locals := 26 * (d + 1) + 286 }) (hp_Pc D vwCl (hp_Tl cA) E sz (cd_pic cA ad ca0 σ0) [.ref (ad 4 0), .int a1]) (hp_Qv D vwCl (hp_Tl cA) sz (cd_pic cA ad ca0 σ0) (fun u => ∃ ca1, cd_inj ad ca1 ∧ u = cd_pic cA ad ca1 p.2.1)) (b0.1 - p.2.2.1) (b0.2 - p.2.2.2) (hp_A (cd_pic cA ad ca0 σ0) sz) := by
  obtain ⟨hm0, hn0, h⟩ := cd_cks h
  have hM0 : p.2.2.1 ≤ b0.1 ∧ p.2.2.2 ≤ b0.2 := ⟨hm0, hn0⟩
  refine ⟨hM0, ?_⟩
  refine hp_ofW (cc := cX4_readExpression) (maxL := 2) (ret := none) (by decide) rfl (Nat.le_of_ble_eq_true rfl) ?_
  intro pp ee ss mm bb mt cd ls cx hsz hw hl
  have hl : lv_has ls 2 [(0, .ref (ad 4 0)), (1, .int a1)] := hl
  refine W.widen (k := b0.1 - b0.1) (n := b0.2 - b0.2) (Nat.zero_le _) (Nat.zero_le _) ?_
  have J23 : ∀ (ca : Nat → Nat) (hj : cd_inj ad ca) (σ : cd_S) (b : cd_B) (l1 : Int32) (t0 : Int32) (H : Heap) (locs : List Loc) (ls : Array Slot), b.1 ≤ b0.1 → b.2 ≤ b0.2 → p.2.2.1 ≤ b.1 → p.2.2.2 ≤ b.2 → f_X4_readExpression_J23 n rec σ b l1 t0 = some (Sum.inl p) → hp_w D vwCl (hp_Tl cA) E (hp_A (cd_pic cA ad ca0 σ0) sz) ss H locs (cd_pic cA ad ca σ) → lv_has ls 2 [(0, .ref (ad 4 0)), (1, .int l1)] → W pp l ee ({ frames := (d + 1) + 16, cells := b0.1 - p.2.2.1, slots := b0.2 - p.2.2.2, locals := 26 * (d + 1) + 286 }) ss mm [.ref (ad 4 0), .int a1].toArray bb mt cd H locs (b0.1 - b.1) (b0.2 - b.2) (MQ bb (hp_Qv D vwCl (hp_Tl cA) sz (cd_pic cA ad ca0 σ0) (fun u => ∃ ca1, cd_inj ad ca1 ∧ u = cd_pic cA ad ca1 p.2.1)) [.ref (ad 4 0), .int a1].toArray ss (b0.1 - p.2.2.1) (b0.2 - p.2.2.2) (hp_A (cd_pic cA ad ca0 σ0) sz)) (F0 mm 23 ls [.int t0, .ref (ad 4 0)]) := by
    intro ca hj σ b l1 t0 H locs ls hb1 hb2 hf1 hf2 h hw hl
    obtain ⟨q1, e_q1, h⟩ := md_ob h
    obtain ⟨hm2, hn2, h⟩ := cd_cks h
    have hM2 : p.2.2.1 ≤ (Sum.elim (fun (p : Int32 × cd_S × cd_B) => p.2.2) (fun (t : cd_S × cd_B) => t.2) q1).1 ∧ p.2.2.2 ≤ (Sum.elim (fun (p : Int32 × cd_S × cd_B) => p.2.2) (fun (t : cd_S × cd_B) => t.2) q1).2 := ⟨hm2, hn2⟩
    cases q1 with
    | inr t1 =>
      exact nomatch Option.some.inj h
    | inl p1 =>
      have hle1 := (kc_X4_room l D cA E sz ad _ hj oq sgq sgv hE n σ b t0 p1 e_q1).1
      have hM10002 : p.2.2.1 ≤ p1.2.2.1 ∧ p.2.2.2 ≤ p1.2.2.2 := hM2
      have h := cd_inl h
      refine hp_callVv (As := [.int t0]) (rest := []) cx hw ((kc_X4_room l D cA E _ ad _ hj oq sgq sgv hE n σ b t0 p1 e_q1).2) (cwV 1 cx.2.2.2.2.2.1 (cd_giV cm_691 cm_692 cm_693 cm_663 cm_694) rfl rfl rfl hdc_X4_room ⟨by (try dsimp only); omega, by (try dsimp only); omega⟩) (cd_atO hj (by decide) (by decide)) rfl rfl hl.1 rfl (Nat.le_of_ble_eq_true rfl) dX4_readExpression_23 ⟨by (try dsimp only); omega, by (try dsimp only); omega⟩ (fun u H locs hp hw => ?_)
      obtain ⟨ca, hj, rfl⟩ := hp
      refine W.widen (k := b0.1 - p1.2.2.1) (n := b0.2 - p1.2.2.2) (by omega) (by omega) ?_
      refine lv_aload_n cx.1 cx.2.1 dX4_readExpression_26 rfl (lv_at hl 0 rfl) ?_
      refine cd_gO (o2 := 10) (e2 := 0) (o := 4) (k := 0) (f := 128) hj cx hw hic4 rfl ⟨by decide, rfl, by decide, rfl⟩ rfl (by decide) ⟨rfl, rfl⟩ (List.mem_cons_of_mem _ cm_658) dX4_readExpression_27 ?_
      refine cd_gI (o := 10) (k := 8) (f := 328) hj cx hw hic10 rfl ⟨by decide, rfl, by decide, rfl⟩ rfl (by decide) (List.mem_cons_of_mem _ cm_665) dX4_readExpression_30 ?_
      by_cases c33_213 : (cI p1.2.1 328 0) = 213
      · refine lv_lookup (off := 35) (tgt := 68) cx.1 cx.2.1 dX4_readExpression_33 (by decide) (by rw [c33_213]; decide) (by decide) ?_
        have h := md_ip c33_213 h
        refine lv_aload_n cx.1 cx.2.1 dX4_readExpression_68 rfl (lv_at hl 0 rfl) ?_
        refine lv_iload_n cx.1 cx.2.1 dX4_readExpression_69 rfl (lv_at hl 1 rfl) ?_
        obtain ⟨q3, e_q3, h⟩ := md_ob h
        obtain ⟨hm4, hn4, h⟩ := cd_cks h
        have hM4 : p.2.2.1 ≤ (Sum.elim (fun (p : Int32 × cd_S × cd_B) => p.2.2) (fun (t : cd_S × cd_B) => t.2) q3).1 ∧ p.2.2.2 ≤ (Sum.elim (fun (p : Int32 × cd_S × cd_B) => p.2.2) (fun (t : cd_S × cd_B) => t.2) q3).2 := ⟨hm4, hn4⟩
        cases q3 with
        | inr t3 =>
          exact nomatch Option.some.inj h
        | inl p3 =>
          have hle3 := (in1 sz _ hj p1.2.1 (p1.2.2) l1 p3 e_q3).1
          have hM10004 : p.2.2.1 ≤ p3.2.2.1 ∧ p.2.2.2 ≤ p3.2.2.2 := hM4
          have h := cd_inl h
          refine hp_callVv (As := [.int l1]) (rest := []) cx hw ((in1 _ _ hj p1.2.1 (p1.2.2) l1 p3 e_q3).2) (cwV 1 cx.2.2.2.2.2.1 (cd_giV cm_930 cm_931 cm_932 cm_663 cm_933) rfl rfl rfl hdc_X4_readLet ⟨by (try dsimp only); omega, by (try dsimp only); omega⟩) (cd_atO hj (by decide) (by decide)) rfl rfl hl.1 rfl (Nat.le_of_ble_eq_true rfl) dX4_readExpression_70 ⟨by (try dsimp only); omega, by (try dsimp only); omega⟩ (fun u H locs hp hw => ?_)
          obtain ⟨ca, hj, rfl⟩ := hp
          refine W.widen (k := b0.1 - p3.2.2.1) (n := b0.2 - p3.2.2.2) (by omega) (by omega) ?_
          refine lv_goto (tgt := 97) cx.1 cx.2.1 dX4_readExpression_73 (by decide) ?_
          exact hp_vret cx hw ((cd_retb hj (congrArg some (Sum.inl.inj (Option.some.inj h)))).2) dX4_readExpression_97 (cd_le1 (congrArg some (Sum.inl.inj (Option.some.inj h)))) (cd_le2 (congrArg some (Sum.inl.inj (Option.some.inj h))))
      have h := md_in c33_213 h
      by_cases c33_215 : (cI p1.2.1 328 0) = 215
      · refine lv_lookup (off := 43) (tgt := 76) cx.1 cx.2.1 dX4_readExpression_33 (by decide) (by rw [c33_215]; decide) (by decide) ?_
        have h := md_ip c33_215 h
        refine lv_aload_n cx.1 cx.2.1 dX4_readExpression_76 rfl (lv_at hl 0 rfl) ?_
        refine lv_iload_n cx.1 cx.2.1 dX4_readExpression_77 rfl (lv_at hl 1 rfl) ?_
        obtain ⟨q5, e_q5, h⟩ := md_ob h
        obtain ⟨hm6, hn6, h⟩ := cd_cks h
        have hM6 : p.2.2.1 ≤ (Sum.elim (fun (p : Int32 × cd_S × cd_B) => p.2.2) (fun (t : cd_S × cd_B) => t.2) q5).1 ∧ p.2.2.2 ≤ (Sum.elim (fun (p : Int32 × cd_S × cd_B) => p.2.2) (fun (t : cd_S × cd_B) => t.2) q5).2 := ⟨hm6, hn6⟩
        cases q5 with
        | inr t5 =>
          exact nomatch Option.some.inj h
        | inl p5 =>
          have hle5 := (in3 sz _ hj p1.2.1 (p1.2.2) l1 p5 e_q5).1
          have hM10006 : p.2.2.1 ≤ p5.2.2.1 ∧ p.2.2.2 ≤ p5.2.2.2 := hM6
          have h := cd_inl h
          refine hp_callVv (As := [.int l1]) (rest := []) cx hw ((in3 _ _ hj p1.2.1 (p1.2.2) l1 p5 e_q5).2) (cwV 1 cx.2.2.2.2.2.1 (cd_giV cm_934 cm_935 cm_936 cm_663 cm_937) rfl rfl rfl hdc_X4_readIf ⟨by (try dsimp only); omega, by (try dsimp only); omega⟩) (cd_atO hj (by decide) (by decide)) rfl rfl hl.1 rfl (Nat.le_of_ble_eq_true rfl) dX4_readExpression_78 ⟨by (try dsimp only); omega, by (try dsimp only); omega⟩ (fun u H locs hp hw => ?_)
          obtain ⟨ca, hj, rfl⟩ := hp
          refine W.widen (k := b0.1 - p5.2.2.1) (n := b0.2 - p5.2.2.2) (by omega) (by omega) ?_
          refine lv_goto (tgt := 97) cx.1 cx.2.1 dX4_readExpression_81 (by decide) ?_
          exact hp_vret cx hw ((cd_retb hj (congrArg some (Sum.inl.inj (Option.some.inj h)))).2) dX4_readExpression_97 (cd_le1 (congrArg some (Sum.inl.inj (Option.some.inj h)))) (cd_le2 (congrArg some (Sum.inl.inj (Option.some.inj h))))
      have h := md_in c33_215 h
      by_cases c33_218 : (cI p1.2.1 328 0) = 218
      · refine lv_lookup (off := 51) (tgt := 84) cx.1 cx.2.1 dX4_readExpression_33 (by decide) (by rw [c33_218]; decide) (by decide) ?_
        have h := md_ip c33_218 h
        refine lv_aload_n cx.1 cx.2.1 dX4_readExpression_84 rfl (lv_at hl 0 rfl) ?_
        refine lv_iload_n cx.1 cx.2.1 dX4_readExpression_85 rfl (lv_at hl 1 rfl) ?_
        obtain ⟨q7, e_q7, h⟩ := md_ob h
        obtain ⟨hm8, hn8, h⟩ := cd_cks h
        have hM8 : p.2.2.1 ≤ (Sum.elim (fun (p : Int32 × cd_S × cd_B) => p.2.2) (fun (t : cd_S × cd_B) => t.2) q7).1 ∧ p.2.2.2 ≤ (Sum.elim (fun (p : Int32 × cd_S × cd_B) => p.2.2) (fun (t : cd_S × cd_B) => t.2) q7).2 := ⟨hm8, hn8⟩
        cases q7 with
        | inr t7 =>
          exact nomatch Option.some.inj h
        | inl p7 =>
          have hle7 := (in4 sz _ hj p1.2.1 (p1.2.2) l1 p7 e_q7).1
          have hM10008 : p.2.2.1 ≤ p7.2.2.1 ∧ p.2.2.2 ≤ p7.2.2.2 := hM8
          have h := cd_inl h
          refine hp_callVv (As := [.int l1]) (rest := []) cx hw ((in4 _ _ hj p1.2.1 (p1.2.2) l1 p7 e_q7).2) (cwV 1 cx.2.2.2.2.2.1 (cd_giV cm_938 cm_939 cm_940 cm_663 cm_941) rfl rfl rfl hdc_X4_readTry ⟨by (try dsimp only); omega, by (try dsimp only); omega⟩) (cd_atO hj (by decide) (by decide)) rfl rfl hl.1 rfl (Nat.le_of_ble_eq_true rfl) dX4_readExpression_86 ⟨by (try dsimp only); omega, by (try dsimp only); omega⟩ (fun u H locs hp hw => ?_)
          obtain ⟨ca, hj, rfl⟩ := hp
          refine W.widen (k := b0.1 - p7.2.2.1) (n := b0.2 - p7.2.2.2) (by omega) (by omega) ?_
          refine lv_goto (tgt := 97) cx.1 cx.2.1 dX4_readExpression_89 (by decide) ?_
          exact hp_vret cx hw ((cd_retb hj (congrArg some (Sum.inl.inj (Option.some.inj h)))).2) dX4_readExpression_97 (cd_le1 (congrArg some (Sum.inl.inj (Option.some.inj h)))) (cd_le2 (congrArg some (Sum.inl.inj (Option.some.inj h))))
      have h := md_in c33_218 h
      refine lv_lookup (off := 59) (tgt := 92) cx.1 cx.2.1 dX4_readExpression_33 (by decide) ((lv_osw c33_213 (by decide)).trans ((lv_osw c33_215 (by decide)).trans ((lv_osw c33_218 (by decide)).trans rfl))) (by decide) ?_
      refine lv_aload_n cx.1 cx.2.1 dX4_readExpression_92 rfl (lv_at hl 0 rfl) ?_
      refine lv_iload_n cx.1 cx.2.1 dX4_readExpression_93 rfl (lv_at hl 1 rfl) ?_
      obtain ⟨q9, e_q9, h⟩ := md_ob h
      obtain ⟨hm10, hn10, h⟩ := cd_cks h
      have hM10 : p.2.2.1 ≤ (Sum.elim (fun (p : Int32 × cd_S × cd_B) => p.2.2) (fun (t : cd_S × cd_B) => t.2) q9).1 ∧ p.2.2.2 ≤ (Sum.elim (fun (p : Int32 × cd_S × cd_B) => p.2.2) (fun (t : cd_S × cd_B) => t.2) q9).2 := ⟨hm10, hn10⟩
      cases q9 with
      | inr t9 =>
        exact nomatch Option.some.inj h
      | inl p9 =>
        have hle9 := (in5 sz _ hj p1.2.1 (p1.2.2) l1 p9 e_q9).1
        have hM10010 : p.2.2.1 ≤ p9.2.2.1 ∧ p.2.2.2 ≤ p9.2.2.2 := hM10
        have h := cd_inl h
        refine hp_callVv (As := [.int l1]) (rest := []) cx hw ((in5 _ _ hj p1.2.1 (p1.2.2) l1 p9 e_q9).2) (cwV 1 cx.2.2.2.2.2.1 (cd_giV cm_942 cm_943 cm_944 cm_663 cm_945) rfl rfl rfl hdc_X4_readComparison ⟨by (try dsimp only); omega, by (try dsimp only); omega⟩) (cd_atO hj (by decide) (by decide)) rfl rfl hl.1 rfl (Nat.le_of_ble_eq_true rfl) dX4_readExpression_94 ⟨by (try dsimp only); omega, by (try dsimp only); omega⟩ (fun u H locs hp hw => ?_)
        obtain ⟨ca, hj, rfl⟩ := hp
        refine W.widen (k := b0.1 - p9.2.2.1) (n := b0.2 - p9.2.2.2) (by omega) (by omega) ?_
        exact hp_vret cx hw ((cd_retb hj (congrArg some (Sum.inl.inj (Option.some.inj h)))).2) dX4_readExpression_97 (cd_le1 (congrArg some (Sum.inl.inj (Option.some.inj h)))) (cd_le2 (congrArg some (Sum.inl.inj (Option.some.inj h))))
  refine lv_aload_n cx.1 cx.2.1 dX4_readExpression_0 rfl (lv_at hl 0 rfl) ?_
  refine lv_aload_n cx.1 cx.2.1 dX4_readExpression_1 rfl (lv_at hl 0 rfl) ?_
  refine cd_gO (o2 := 10) (e2 := 0) (o := 4) (k := 0) (f := 128) hj cx hw hic4 rfl ⟨by decide, rfl, by decide, rfl⟩ rfl (by decide) ⟨rfl, rfl⟩ (List.mem_cons_of_mem _ cm_658) dX4_readExpression_2 ?_
  obtain ⟨p11, e_p11, h⟩ := md_ob h
  refine hp_callVi (As := []) (rest := [.ref (ad 4 0)]) cx hw (kc_X10_beginsExpression l D cA E _ ad _ hj oq sgq sgv hE n σ0  p11 e_p11) (cwV 0 cx.2.2.2.2.2.1 (cd_giV cm_756 cm_757 cm_758 cm_301 cm_759) rfl rfl rfl hdc_X10_beginsExpression ⟨by (try dsimp only); omega, by (try dsimp only); omega⟩) (cd_atO hj (by decide) (by decide)) rfl rfl hl.1 rfl (Nat.le_of_ble_eq_true rfl) dX4_readExpression_5 ⟨by (try dsimp only); omega, by (try dsimp only); omega⟩ (fun r u H locs hp hw => ?_)
  obtain ⟨rfl, ca, hj, rfl⟩ := hp
  obtain ⟨q12, e_q12, h⟩ := md_ob h
  obtain ⟨hm13, hn13, h⟩ := cd_cks h
  have hM13 : p.2.2.1 ≤ (Sum.elim (fun (p : Int32 × cd_S × cd_B) => p.2.2) (fun (t : cd_S × cd_B) => t.2) q12).1 ∧ p.2.2.2 ≤ (Sum.elim (fun (p : Int32 × cd_S × cd_B) => p.2.2) (fun (t : cd_S × cd_B) => t.2) q12).2 := ⟨hm13, hn13⟩
  cases q12 with
  | inr t12 =>
    exact nomatch Option.some.inj h
  | inl p12 =>
    have hle12 := (kc_X4_need l D cA E sz ad _ hj oq sgq sgv hE n p11.2 b0 (p11.1) p12 e_q12).1
    have hM10013 : p.2.2.1 ≤ p12.2.2.1 ∧ p.2.2.2 ≤ p12.2.2.2 := hM13
    have h := cd_inl h
    refine hp_callVv (As := [.int p11.1]) (rest := []) cx hw ((kc_X4_need l D cA E _ ad _ hj oq sgq sgv hE n p11.2 b0 (p11.1) p12 e_q12).2) (cwV 1 cx.2.2.2.2.2.1 (cd_giV cm_666 cm_667 cm_668 cm_663 cm_669) rfl rfl rfl hdc_X4_need ⟨by (try dsimp only); omega, by (try dsimp only); omega⟩) (cd_atO hj (by decide) (by decide)) rfl rfl hl.1 rfl (Nat.le_of_ble_eq_true rfl) dX4_readExpression_8 ⟨by (try dsimp only); omega, by (try dsimp only); omega⟩ (fun u H locs hp hw => ?_)
    obtain ⟨ca, hj, rfl⟩ := hp
    refine W.widen (k := b0.1 - p12.2.2.1) (n := b0.2 - p12.2.2.2) (by omega) (by omega) ?_
    refine lv_aload_n cx.1 cx.2.1 dX4_readExpression_11 rfl (lv_at hl 0 rfl) ?_
    refine lv_iload_n cx.1 cx.2.1 dX4_readExpression_12 rfl (lv_at hl 1 rfl) ?_
    refine lv_bipush (v := 24) cx.1 cx.2.1 dX4_readExpression_13 (by decide) ?_
    refine lv_icmp_gt (tgt := 22) cx.1 cx.2.1 dX4_readExpression_15 (by decide) (fun c15 => ?_) (fun c15 => ?_)
    · have h := md_ip c15 h
      refine lv_iconst (v := 0) cx.1 cx.2.1 dX4_readExpression_22 (by decide) ?_
      exact J23 _ hj p12.2.1 (p12.2.2) a1 0 _ _ _ (by omega) (by omega) (by omega) (by omega) h hw (lv_sub hl [0, 1] rfl)
    · have h := md_in c15 h
      refine lv_iconst (v := 1) cx.1 cx.2.1 dX4_readExpression_18 (by decide) ?_
      refine lv_goto (tgt := 23) cx.1 cx.2.1 dX4_readExpression_19 (by decide) ?_
      exact J23 _ hj p12.2.1 (p12.2.2) a1 1 _ _ _ (by omega) (by omega) (by omega) (by omega) h hw (lv_sub hl [0, 1] rfl)
theorem cd_Gr_ok (l : Launch) (D : va_G) (cA : Nat → ClassId) (E : hp_N) (ad : Nat → Nat → Nat) (oq sgq sgv : Nat) (hE : cd_E E oq sgq sgv) (n : Nat) : ∀ d : Nat, (∀ (sz : Nat) (ca : Nat → Nat) (_ : cd_inj ad ca) (σ : cd_S) (b : cd_B) (a1 : Int32) (p : Int32 × cd_S × cd_B), cd_Gr n d 0 0 a1 0 σ b = some (Sum.inl p) → (p.2.2.1 ≤ b.1 ∧ p.2.2.2 ≤ b.2) ∧ Met l yX4_readExpression (Cond.code yX4_readExpression cX4_readExpression 2 none :: v_CLS) ({ frames := d + 16, cells := b.1 - p.2.2.1, slots := b.2 - p.2.2.2, locals := 26 * d + 286 }) (hp_Pc D vwCl (hp_Tl cA) E sz (cd_pic cA ad ca σ) [.ref (ad 4 0), .int a1]) (hp_Qv D vwCl (hp_Tl cA) sz (cd_pic cA ad ca σ) (fun u => ∃ ca1, cd_inj ad ca1 ∧ u = cd_pic cA ad ca1 p.2.1)) (b.1 - p.2.2.1) (b.2 - p.2.2.2) (hp_A (cd_pic cA ad ca σ) sz)) ∧ (∀ (sz : Nat) (ca : Nat → Nat) (_ : cd_inj ad ca) (σ : cd_S) (b : cd_B) (a1 : Int32) (p : Int32 × cd_S × cd_B), cd_Gr n d 1 0 a1 0 σ b = some (Sum.inl p) → (p.2.2.1 ≤ b.1 ∧ p.2.2.2 ≤ b.2) ∧ Met l yX4_readLet (Cond.code yX4_readLet cX4_readLet 5 none :: v_CLS) ({ frames := d + 16, cells := b.1 - p.2.2.1, slots := b.2 - p.2.2.2, locals := 26 * d + 286 }) (hp_Pc D vwCl (hp_Tl cA) E sz (cd_pic cA ad ca σ) [.ref (ad 4 0), .int a1]) (hp_Qv D vwCl (hp_Tl cA) sz (cd_pic cA ad ca σ) (fun u => ∃ ca1, cd_inj ad ca1 ∧ u = cd_pic cA ad ca1 p.2.1)) (b.1 - p.2.2.1) (b.2 - p.2.2.2) (hp_A (cd_pic cA ad ca σ) sz)) ∧ (∀ (sz : Nat) (ca : Nat → Nat) (_ : cd_inj ad ca) (σ : cd_S) (b : cd_B) (a1 : Int64) (a3 : Int32) (a4 : Int32) (p : Int32 × cd_S × cd_B), cd_Gr n d 2 a1 a3 a4 σ b = some (Sum.inl p) → (p.2.2.1 ≤ b.1 ∧ p.2.2.2 ≤ b.2) ∧ Met l yX4_readBound (Cond.code yX4_readBound cX4_readBound 5 none :: v_CLS) ({ frames := d + 16, cells := b.1 - p.2.2.1, slots := b.2 - p.2.2.2, locals := 26 * d + 286 }) (hp_Pc D vwCl (hp_Tl cA) E sz (cd_pic cA ad ca σ) [.ref (ad 4 0), .long a1, .int a3, .int a4]) (hp_Qv D vwCl (hp_Tl cA) sz (cd_pic cA ad ca σ) (fun u => ∃ ca1, cd_inj ad ca1 ∧ u = cd_pic cA ad ca1 p.2.1)) (b.1 - p.2.2.1) (b.2 - p.2.2.2) (hp_A (cd_pic cA ad ca σ) sz)) ∧ (∀ (sz : Nat) (ca : Nat → Nat) (_ : cd_inj ad ca) (σ : cd_S) (b : cd_B) (a1 : Int32) (p : Int32 × cd_S × cd_B), cd_Gr n d 3 0 a1 0 σ b = some (Sum.inl p) → (p.2.2.1 ≤ b.1 ∧ p.2.2.2 ≤ b.2) ∧ Met l yX4_readIf (Cond.code yX4_readIf cX4_readIf 4 none :: v_CLS) ({ frames := d + 16, cells := b.1 - p.2.2.1, slots := b.2 - p.2.2.2, locals := 26 * d + 286 }) (hp_Pc D vwCl (hp_Tl cA) E sz (cd_pic cA ad ca σ) [.ref (ad 4 0), .int a1]) (hp_Qv D vwCl (hp_Tl cA) sz (cd_pic cA ad ca σ) (fun u => ∃ ca1, cd_inj ad ca1 ∧ u = cd_pic cA ad ca1 p.2.1)) (b.1 - p.2.2.1) (b.2 - p.2.2.2) (hp_A (cd_pic cA ad ca σ) sz)) ∧ (∀ (sz : Nat) (ca : Nat → Nat) (_ : cd_inj ad ca) (σ : cd_S) (b : cd_B) (a1 : Int32) (p : Int32 × cd_S × cd_B), cd_Gr n d 4 0 a1 0 σ b = some (Sum.inl p) → (p.2.2.1 ≤ b.1 ∧ p.2.2.2 ≤ b.2) ∧ Met l yX4_readTry (Cond.code yX4_readTry cX4_readTry 7 none :: v_CLS) ({ frames := d + 16, cells := b.1 - p.2.2.1, slots := b.2 - p.2.2.2, locals := 26 * d + 286 }) (hp_Pc D vwCl (hp_Tl cA) E sz (cd_pic cA ad ca σ) [.ref (ad 4 0), .int a1]) (hp_Qv D vwCl (hp_Tl cA) sz (cd_pic cA ad ca σ) (fun u => ∃ ca1, cd_inj ad ca1 ∧ u = cd_pic cA ad ca1 p.2.1)) (b.1 - p.2.2.1) (b.2 - p.2.2.2) (hp_A (cd_pic cA ad ca σ) sz)) ∧ (∀ (sz : Nat) (ca : Nat → Nat) (_ : cd_inj ad ca) (σ : cd_S) (b : cd_B) (a1 : Int32) (p : Int32 × cd_S × cd_B), cd_Gr n d 5 0 a1 0 σ b = some (Sum.inl p) → (p.2.2.1 ≤ b.1 ∧ p.2.2.2 ≤ b.2) ∧ Met l yX4_readComparison (Cond.code yX4_readComparison cX4_readComparison 3 none :: v_CLS) ({ frames := d + 16, cells := b.1 - p.2.2.1, slots := b.2 - p.2.2.2, locals := 26 * d + 286 }) (hp_Pc D vwCl (hp_Tl cA) E sz (cd_pic cA ad ca σ) [.ref (ad 4 0), .int a1]) (hp_Qv D vwCl (hp_Tl cA) sz (cd_pic cA ad ca σ) (fun u => ∃ ca1, cd_inj ad ca1 ∧ u = cd_pic cA ad ca1 p.2.1)) (b.1 - p.2.2.1) (b.2 - p.2.2.2) (hp_A (cd_pic cA ad ca σ) sz)) ∧ (∀ (sz : Nat) (ca : Nat → Nat) (_ : cd_inj ad ca) (σ : cd_S) (b : cd_B) (a1 : Int32) (p : Int32 × cd_S × cd_B), cd_Gr n d 6 0 a1 0 σ b = some (Sum.inl p) → (p.2.2.1 ≤ b.1 ∧ p.2.2.2 ≤ b.2) ∧ Met l yX4_readSum (Cond.code yX4_readSum cX4_readSum 4 none :: v_CLS) ({ frames := d + 16, cells := b.1 - p.2.2.1, slots := b.2 - p.2.2.2, locals := 26 * d + 286 }) (hp_Pc D vwCl (hp_Tl cA) E sz (cd_pic cA ad ca σ) [.ref (ad 4 0), .int a1]) (hp_Qv D vwCl (hp_Tl cA) sz (cd_pic cA ad ca σ) (fun u => ∃ ca1, cd_inj ad ca1 ∧ u = cd_pic cA ad ca1 p.2.1)) (b.1 - p.2.2.1) (b.2 - p.2.2.2) (hp_A (cd_pic cA ad ca σ) sz)) ∧ (∀ (sz : Nat) (ca : Nat → Nat) (_ : cd_inj ad ca) (σ : cd_S) (b : cd_B) (a1 : Int32) (p : Int32 × cd_S × cd_B), cd_Gr n d 7 0 a1 0 σ b = some (Sum.inl p) → (p.2.2.1 ≤ b.1 ∧ p.2.2.2 ≤ b.2) ∧ Met l yX4_readProduct (Cond.code yX4_readProduct cX4_readProduct 3 none :: v_CLS) ({ frames := d + 16, cells := b.1 - p.2.2.1, slots := b.2 - p.2.2.2, locals := 26 * d + 286 }) (hp_Pc D vwCl (hp_Tl cA) E sz (cd_pic cA ad ca σ) [.ref (ad 4 0), .int a1]) (hp_Qv D vwCl (hp_Tl cA) sz (cd_pic cA ad ca σ) (fun u => ∃ ca1, cd_inj ad ca1 ∧ u = cd_pic cA ad ca1 p.2.1)) (b.1 - p.2.2.1) (b.2 - p.2.2.2) (hp_A (cd_pic cA ad ca σ) sz)) ∧ (∀ (sz : Nat) (ca : Nat → Nat) (_ : cd_inj ad ca) (σ : cd_S) (b : cd_B) (a1 : Int32) (p : Int32 × cd_S × cd_B), cd_Gr n d 8 0 a1 0 σ b = some (Sum.inl p) → (p.2.2.1 ≤ b.1 ∧ p.2.2.2 ≤ b.2) ∧ Met l yX4_readInnerPrefix (Cond.code yX4_readInnerPrefix cX4_readInnerPrefix 2 none :: v_CLS) ({ frames := d + 16, cells := b.1 - p.2.2.1, slots := b.2 - p.2.2.2, locals := 26 * d + 286 }) (hp_Pc D vwCl (hp_Tl cA) E sz (cd_pic cA ad ca σ) [.ref (ad 4 0), .int a1]) (hp_Qv D vwCl (hp_Tl cA) sz (cd_pic cA ad ca σ) (fun u => ∃ ca1, cd_inj ad ca1 ∧ u = cd_pic cA ad ca1 p.2.1)) (b.1 - p.2.2.1) (b.2 - p.2.2.2) (hp_A (cd_pic cA ad ca σ) sz)) ∧ (∀ (sz : Nat) (ca : Nat → Nat) (_ : cd_inj ad ca) (σ : cd_S) (b : cd_B) (a1 : Int32) (p : Int32 × cd_S × cd_B), cd_Gr n d 9 0 a1 0 σ b = some (Sum.inl p) → (p.2.2.1 ≤ b.1 ∧ p.2.2.2 ≤ b.2) ∧ Met l yX4_readPrefix (Cond.code yX4_readPrefix cX4_readPrefix 2 none :: v_CLS) ({ frames := d + 16, cells := b.1 - p.2.2.1, slots := b.2 - p.2.2.2, locals := 26 * d + 286 }) (hp_Pc D vwCl (hp_Tl cA) E sz (cd_pic cA ad ca σ) [.ref (ad 4 0), .int a1]) (hp_Qv D vwCl (hp_Tl cA) sz (cd_pic cA ad ca σ) (fun u => ∃ ca1, cd_inj ad ca1 ∧ u = cd_pic cA ad ca1 p.2.1)) (b.1 - p.2.2.1) (b.2 - p.2.2.2) (hp_A (cd_pic cA ad ca σ) sz)) ∧ (∀ (sz : Nat) (ca : Nat → Nat) (_ : cd_inj ad ca) (σ : cd_S) (b : cd_B) (a1 : Int32) (a2 : Int32) (p : Int32 × cd_S × cd_B), cd_Gr n d 10 0 a1 a2 σ b = some (Sum.inl p) → (p.2.2.1 ≤ b.1 ∧ p.2.2.2 ≤ b.2) ∧ Met l yX4_readWord (Cond.code yX4_readWord cX4_readWord 3 none :: v_CLS) ({ frames := d + 16, cells := b.1 - p.2.2.1, slots := b.2 - p.2.2.2, locals := 26 * d + 286 }) (hp_Pc D vwCl (hp_Tl cA) E sz (cd_pic cA ad ca σ) [.ref (ad 4 0), .int a1, .int a2]) (hp_Qv D vwCl (hp_Tl cA) sz (cd_pic cA ad ca σ) (fun u => ∃ ca1, cd_inj ad ca1 ∧ u = cd_pic cA ad ca1 p.2.1)) (b.1 - p.2.2.1) (b.2 - p.2.2.2) (hp_A (cd_pic cA ad ca σ) sz)) ∧ (∀ (sz : Nat) (ca : Nat → Nat) (_ : cd_inj ad ca) (σ : cd_S) (b : cd_B) (a1 : Int32) (p : Int32 × cd_S × cd_B), cd_Gr n d 11 0 a1 0 σ b = some (Sum.inl p) → (p.2.2.1 ≤ b.1 ∧ p.2.2.2 ≤ b.2) ∧ Met l yX4_readPriv (Cond.code yX4_readPriv cX4_readPriv 5 none :: v_CLS) ({ frames := d + 16, cells := b.1 - p.2.2.1, slots := b.2 - p.2.2.2, locals := 26 * d + 286 }) (hp_Pc D vwCl (hp_Tl cA) E sz (cd_pic cA ad ca σ) [.ref (ad 4 0), .int a1]) (hp_Qv D vwCl (hp_Tl cA) sz (cd_pic cA ad ca σ) (fun u => ∃ ca1, cd_inj ad ca1 ∧ u = cd_pic cA ad ca1 p.2.1)) (b.1 - p.2.2.1) (b.2 - p.2.2.2) (hp_A (cd_pic cA ad ca σ) sz)) ∧ (∀ (sz : Nat) (ca : Nat → Nat) (_ : cd_inj ad ca) (σ : cd_S) (b : cd_B) (a1 : Int32) (p : Int32 × cd_S × cd_B), cd_Gr n d 12 0 a1 0 σ b = some (Sum.inl p) → (p.2.2.1 ≤ b.1 ∧ p.2.2.2 ≤ b.2) ∧ Met l yX4_readUnder (Cond.code yX4_readUnder cX4_readUnder 3 none :: v_CLS) ({ frames := d + 16, cells := b.1 - p.2.2.1, slots := b.2 - p.2.2.2, locals := 26 * d + 286 }) (hp_Pc D vwCl (hp_Tl cA) E sz (cd_pic cA ad ca σ) [.ref (ad 4 0), .int a1]) (hp_Qv D vwCl (hp_Tl cA) sz (cd_pic cA ad ca σ) (fun u => ∃ ca1, cd_inj ad ca1 ∧ u = cd_pic cA ad ca1 p.2.1)) (b.1 - p.2.2.1) (b.2 - p.2.2.2) (hp_A (cd_pic cA ad ca σ) sz)) ∧ (∀ (sz : Nat) (ca : Nat → Nat) (_ : cd_inj ad ca) (σ : cd_S) (b : cd_B) (a1 : Int32) (p : Int32 × cd_S × cd_B), cd_Gr n d 13 0 a1 0 σ b = some (Sum.inl p) → (p.2.2.1 ≤ b.1 ∧ p.2.2.2 ≤ b.2) ∧ Met l yX4_readPostfix (Cond.code yX4_readPostfix cX4_readPostfix 5 none :: v_CLS) ({ frames := d + 16, cells := b.1 - p.2.2.1, slots := b.2 - p.2.2.2, locals := 26 * d + 286 }) (hp_Pc D vwCl (hp_Tl cA) E sz (cd_pic cA ad ca σ) [.ref (ad 4 0), .int a1]) (hp_Qv D vwCl (hp_Tl cA) sz (cd_pic cA ad ca σ) (fun u => ∃ ca1, cd_inj ad ca1 ∧ u = cd_pic cA ad ca1 p.2.1)) (b.1 - p.2.2.1) (b.2 - p.2.2.2) (hp_A (cd_pic cA ad ca σ) sz)) ∧ (∀ (sz : Nat) (ca : Nat → Nat) (_ : cd_inj ad ca) (σ : cd_S) (b : cd_B) (a1 : Int32) (p : Int32 × cd_S × cd_B), cd_Gr n d 14 0 a1 0 σ b = some (Sum.inl p) → (p.2.2.1 ≤ b.1 ∧ p.2.2.2 ≤ b.2) ∧ Met l yX4_readMember (Cond.code yX4_readMember cX4_readMember 4 (some .boolean) :: v_CLS) ({ frames := d + 16, cells := b.1 - p.2.2.1, slots := b.2 - p.2.2.2, locals := 26 * d + 286 }) (hp_Pc D vwCl (hp_Tl cA) E sz (cd_pic cA ad ca σ) [.ref (ad 4 0), .int a1]) (hp_Qi D vwCl (hp_Tl cA) sz (cd_pic cA ad ca σ) (fun r u => r = p.1 ∧ ∃ ca1, cd_inj ad ca1 ∧ u = cd_pic cA ad ca1 p.2.1)) (b.1 - p.2.2.1) (b.2 - p.2.2.2) (hp_A (cd_pic cA ad ca σ) sz)) ∧ (∀ (sz : Nat) (ca : Nat → Nat) (_ : cd_inj ad ca) (σ : cd_S) (b : cd_B) (a1 : Int32) (p : Int32 × cd_S × cd_B), cd_Gr n d 15 0 a1 0 σ b = some (Sum.inl p) → (p.2.2.1 ≤ b.1 ∧ p.2.2.2 ≤ b.2) ∧ Met l yX4_readArguments (Cond.code yX4_readArguments cX4_readArguments 5 (some .int) :: v_CLS) ({ frames := d + 16, cells := b.1 - p.2.2.1, slots := b.2 - p.2.2.2, locals := 26 * d + 286 }) (hp_Pc D vwCl (hp_Tl cA) E sz (cd_pic cA ad ca σ) [.ref (ad 4 0), .int a1]) (hp_Qi D vwCl (hp_Tl cA) sz (cd_pic cA ad ca σ) (fun r u => r = p.1 ∧ ∃ ca1, cd_inj ad ca1 ∧ u = cd_pic cA ad ca1 p.2.1)) (b.1 - p.2.2.1) (b.2 - p.2.2.2) (hp_A (cd_pic cA ad ca σ) sz)) ∧ (∀ (sz : Nat) (ca : Nat → Nat) (_ : cd_inj ad ca) (σ : cd_S) (b : cd_B) (a1 : Int32) (p : Int32 × cd_S × cd_B), cd_Gr n d 16 0 a1 0 σ b = some (Sum.inl p) → (p.2.2.1 ≤ b.1 ∧ p.2.2.2 ≤ b.2) ∧ Met l yX4_readAtom (Cond.code yX4_readAtom cX4_readAtom 2 none :: v_CLS) ({ frames := d + 16, cells := b.1 - p.2.2.1, slots := b.2 - p.2.2.2, locals := 26 * d + 286 }) (hp_Pc D vwCl (hp_Tl cA) E sz (cd_pic cA ad ca σ) [.ref (ad 4 0), .int a1]) (hp_Qv D vwCl (hp_Tl cA) sz (cd_pic cA ad ca σ) (fun u => ∃ ca1, cd_inj ad ca1 ∧ u = cd_pic cA ad ca1 p.2.1)) (b.1 - p.2.2.1) (b.2 - p.2.2.2) (hp_A (cd_pic cA ad ca σ) sz)) ∧ (∀ (sz : Nat) (ca : Nat → Nat) (_ : cd_inj ad ca) (σ : cd_S) (b : cd_B) (a1 : Int32) (p : Int32 × cd_S × cd_B), cd_Gr n d 17 0 a1 0 σ b = some (Sum.inl p) → (p.2.2.1 ≤ b.1 ∧ p.2.2.2 ≤ b.2) ∧ Met l yX4_readFun (Cond.code yX4_readFun cX4_readFun 4 none :: v_CLS) ({ frames := d + 16, cells := b.1 - p.2.2.1, slots := b.2 - p.2.2.2, locals := 26 * d + 286 }) (hp_Pc D vwCl (hp_Tl cA) E sz (cd_pic cA ad ca σ) [.ref (ad 4 0), .int a1]) (hp_Qv D vwCl (hp_Tl cA) sz (cd_pic cA ad ca σ) (fun u => ∃ ca1, cd_inj ad ca1 ∧ u = cd_pic cA ad ca1 p.2.1)) (b.1 - p.2.2.1) (b.2 - p.2.2.2) (hp_A (cd_pic cA ad ca σ) sz)) ∧ (∀ (sz : Nat) (ca : Nat → Nat) (_ : cd_inj ad ca) (σ : cd_S) (b : cd_B) (a1 : Int32) (p : Int32 × cd_S × cd_B), cd_Gr n d 18 0 a1 0 σ b = some (Sum.inl p) → (p.2.2.1 ≤ b.1 ∧ p.2.2.2 ≤ b.2) ∧ Met l yX4_readRow (Cond.code yX4_readRow cX4_readRow 3 none :: v_CLS) ({ frames := d + 16, cells := b.1 - p.2.2.1, slots := b.2 - p.2.2.2, locals := 26 * d + 286 }) (hp_Pc D vwCl (hp_Tl cA) E sz (cd_pic cA ad ca σ) [.ref (ad 4 0), .int a1]) (hp_Qv D vwCl (hp_Tl cA) sz (cd_pic cA ad ca σ) (fun u => ∃ ca1, cd_inj ad ca1 ∧ u = cd_pic cA ad ca1 p.2.1)) (b.1 - p.2.2.1) (b.2 - p.2.2.2) (hp_A (cd_pic cA ad ca σ) sz)) ∧ (∀ (sz : Nat) (ca : Nat → Nat) (_ : cd_inj ad ca) (σ : cd_S) (b : cd_B) (a1 : Int32) (a2 : Int32) (p : Int32 × cd_S × cd_B), cd_Gr n d 19 0 a1 a2 σ b = some (Sum.inl p) → (p.2.2.1 ≤ b.1 ∧ p.2.2.2 ≤ b.2) ∧ Met l yX4_readAsking (Cond.code yX4_readAsking cX4_readAsking 4 none :: v_CLS) ({ frames := d + 16, cells := b.1 - p.2.2.1, slots := b.2 - p.2.2.2, locals := 26 * d + 286 }) (hp_Pc D vwCl (hp_Tl cA) E sz (cd_pic cA ad ca σ) [.ref (ad 4 0), .int a1, .int a2]) (hp_Qv D vwCl (hp_Tl cA) sz (cd_pic cA ad ca σ) (fun u => ∃ ca1, cd_inj ad ca1 ∧ u = cd_pic cA ad ca1 p.2.1)) (b.1 - p.2.2.1) (b.2 - p.2.2.2) (hp_A (cd_pic cA ad ca σ) sz)) := by
  intro d
  induction d with
  | zero => exact ⟨(fun _ _ _ _ _ _ _ h => nomatch h), (fun _ _ _ _ _ _ _ h => nomatch h), (fun _ _ _ _ _ _ _ _ _ h => nomatch h), (fun _ _ _ _ _ _ _ h => nomatch h), (fun _ _ _ _ _ _ _ h => nomatch h), (fun _ _ _ _ _ _ _ h => nomatch h), (fun _ _ _ _ _ _ _ h => nomatch h), (fun _ _ _ _ _ _ _ h => nomatch h), (fun _ _ _ _ _ _ _ h => nomatch h), (fun _ _ _ _ _ _ _ h => nomatch h), (fun _ _ _ _ _ _ _ _ h => nomatch h), (fun _ _ _ _ _ _ _ h => nomatch h), (fun _ _ _ _ _ _ _ h => nomatch h), (fun _ _ _ _ _ _ _ h => nomatch h), (fun _ _ _ _ _ _ _ h => nomatch h), (fun _ _ _ _ _ _ _ h => nomatch h), (fun _ _ _ _ _ _ _ h => nomatch h), (fun _ _ _ _ _ _ _ h => nomatch h), (fun _ _ _ _ _ _ _ h => nomatch h), (fun _ _ _ _ _ _ _ _ h => nomatch h)⟩
  | succ d ih =>
    obtain ⟨i0, i1, i2, i3, i4, i5, i6, i7, i8, i9, i10, i11, i12, i13, i14, i15, i16, i17, i18, i19⟩ := ih
    refine ⟨?_, ?_, ?_, ?_, ?_, ?_, ?_, ?_, ?_, ?_, ?_, ?_, ?_, ?_, ?_, ?_, ?_, ?_, ?_, ?_⟩
    · intro sz ca hj σ b a1 p h
      exact kc_X4_readExpression l D cA E sz ad ca hj oq sgq sgv hE n d _ i5 i3 i1 i4 σ b a1 p h
    · intro sz ca hj σ b a1 p h
      exact kc_X4_readLet l D cA E sz ad ca hj oq sgq sgv hE n d _ i2 i0 σ b a1 p h
    · intro sz ca hj σ b a1 a3 a4 p h
      exact kc_X4_readBound l D cA E sz ad ca hj oq sgq sgv hE n d _ i0 σ b a1 a3 a4 p h
    · intro sz ca hj σ b a1 p h
      exact kc_X4_readIf l D cA E sz ad ca hj oq sgq sgv hE n d _ i0 σ b a1 p h
    · intro sz ca hj σ b a1 p h
      exact kc_X4_readTry l D cA E sz ad ca hj oq sgq sgv hE n d _ i2 i0 σ b a1 p h
    · intro sz ca hj σ b a1 p h
      exact kc_X4_readComparison l D cA E sz ad ca hj oq sgq sgv hE n d _ i6 σ b a1 p h
    · intro sz ca hj σ b a1 p h
      exact kc_X4_readSum l D cA E sz ad ca hj oq sgq sgv hE n d _ i7 σ b a1 p h
    · intro sz ca hj σ b a1 p h
      exact kc_X4_readProduct l D cA E sz ad ca hj oq sgq sgv hE n d _ i9 σ b a1 p h
    · intro sz ca hj σ b a1 p h
      exact kc_X4_readInnerPrefix l D cA E sz ad ca hj oq sgq sgv hE n d _ i9 σ b a1 p h
    · intro sz ca hj σ b a1 p h
      exact kc_X4_readPrefix l D cA E sz ad ca hj oq sgq sgv hE n d _ i13 i11 i12 i10 σ b a1 p h
    · intro sz ca hj σ b a1 a2 p h
      exact kc_X4_readWord l D cA E sz ad ca hj oq sgq sgv hE n d _ i8 σ b a1 a2 p h
    · intro sz ca hj σ b a1 p h
      exact kc_X4_readPriv l D cA E sz ad ca hj oq sgq sgv hE n d _ i8 σ b a1 p h
    · intro sz ca hj σ b a1 p h
      exact kc_X4_readUnder l D cA E sz ad ca hj oq sgq sgv hE n d _ i8 σ b a1 p h
    · intro sz ca hj σ b a1 p h
      exact kc_X4_readPostfix l D cA E sz ad ca hj oq sgq sgv hE n d _ i15 i16 i14 σ b a1 p h
    · intro sz ca hj σ b a1 p h
      exact kc_X4_readMember l D cA E sz ad ca hj oq sgq sgv hE n d _ i15 i8 σ b a1 p h
    · intro sz ca hj σ b a1 p h
      exact kc_X4_readArguments l D cA E sz ad ca hj oq sgq sgv hE n d _ i0 σ b a1 p h
    · intro sz ca hj σ b a1 p h
      exact kc_X4_readAtom l D cA E sz ad ca hj oq sgq sgv hE n d _ i19 i0 i17 i18 σ b a1 p h
    · intro sz ca hj σ b a1 p h
      exact kc_X4_readFun l D cA E sz ad ca hj oq sgq sgv hE n d _ i18 σ b a1 p h
    · intro sz ca hj σ b a1 p h
      exact kc_X4_readRow l D cA E sz ad ca hj oq sgq sgv hE n d _ i0 σ b a1 p h
    · intro sz ca hj σ b a1 a2 p h
      exact kc_X4_readAsking l D cA E sz ad ca hj oq sgq sgv hE n d _ i0 σ b a1 a2 p h
theorem oc_X4_readExpression (l : Launch) (D : va_G) (cA : Nat → ClassId) (E : hp_N) (ad : Nat → Nat → Nat) (oq sgq sgv : Nat) (hE : cd_E E oq sgq sgv) (n : Nat) : ∀ (sz : Nat) (ca : Nat → Nat) (_ : cd_inj ad ca) (σ : cd_S) (b : cd_B) (a1 : Int32) (p : Int32 × cd_S × cd_B), cd_Gr n 400 0 0 a1 0 σ b = some (Sum.inl p) → (p.2.2.1 ≤ b.1 ∧ p.2.2.2 ≤ b.2) ∧ Met l yX4_readExpression (Cond.code yX4_readExpression cX4_readExpression 2 none :: v_CLS) ({ frames := 400 + 16, cells := b.1 - p.2.2.1, slots := b.2 - p.2.2.2, locals := 26 * 400 + 286 }) (hp_Pc D vwCl (hp_Tl cA) E sz (cd_pic cA ad ca σ) [.ref (ad 4 0), .int a1]) (hp_Qv D vwCl (hp_Tl cA) sz (cd_pic cA ad ca σ) (fun u => ∃ ca1, cd_inj ad ca1 ∧ u = cd_pic cA ad ca1 p.2.1)) (b.1 - p.2.2.1) (b.2 - p.2.2.2) (hp_A (cd_pic cA ad ca σ) sz) := (cd_Gr_ok l D cA E ad oq sgq sgv hE n 400).1
set_option maxHeartbeats 4000000 in
set_option maxRecDepth 100000 in
theorem kc_X4_readMethod (l : Launch) (D : va_G) (cA : Nat → ClassId) (E : hp_N) (sz : Nat) (ad : Nat → Nat → Nat) (ca0 : Nat → Nat) (hj : cd_inj ad ca0) (oq sgq sgv : Nat) (hE : cd_E E oq sgq sgv) (n : Nat) (σ0 : cd_S) (b0 : cd_B) (p : (Int32 × cd_S × cd_B)) (h : f_X4_readMethod n σ0 b0 = some (Sum.inl p)) : (p.2.2.1 ≤ b0.1 ∧ p.2.2.2 ≤ b0.2) ∧ Met l yX4_readMethod (Cond.code yX4_readMethod cX4_readMethod 3 none :: v_CLS) ({ frames := 417, cells := b0.1 - p.2.2.1, slots := b0.2 - p.2.2.2, locals := 10707 }) (hp_Pc D vwCl (hp_Tl cA) E sz (cd_pic cA ad ca0 σ0) [.ref (ad 4 0)]) (hp_Qv D vwCl (hp_Tl cA) sz (cd_pic cA ad ca0 σ0) (fun u => ∃ ca1, cd_inj ad ca1 ∧ u = cd_pic cA ad ca1 p.2.1)) (b0.1 - p.2.2.1) (b0.2 - p.2.2.2) (hp_A (cd_pic cA ad ca0 σ0) sz) := by
  obtain ⟨hm0, hn0, h⟩ := cd_cks h
  have hM0 : p.2.2.1 ≤ b0.1 ∧ p.2.2.2 ≤ b0.2 := ⟨hm0, hn0⟩
  refine ⟨hM0, ?_⟩
  refine hp_ofW (cc := cX4_readMethod) (maxL := 3) (ret := none) (by decide) rfl (Nat.le_of_ble_eq_true rfl) ?_
  intro pp ee ss mm bb mt cd ls cx hsz hw hl
  have hl : lv_has ls 3 [(0, .ref (ad 4 0))] := hl
  refine W.widen (k := b0.1 - b0.1) (n := b0.2 - b0.2) (Nat.zero_le _) (Nat.zero_le _) ?_
  have J123 : ∀ (ca : Nat → Nat) (hj : cd_inj ad ca) (σ : cd_S) (b : cd_B) (l1 : Int64) (H : Heap) (locs : List Loc) (ls : Array Slot), b.1 ≤ b0.1 → b.2 ≤ b0.2 → p.2.2.1 ≤ b.1 → p.2.2.2 ≤ b.2 → f_X4_readMethod_J123 n σ b l1 = some (Sum.inl p) → hp_w D vwCl (hp_Tl cA) E (hp_A (cd_pic cA ad ca0 σ0) sz) ss H locs (cd_pic cA ad ca σ) → lv_has ls 3 [(0, .ref (ad 4 0)), (1, .long l1)] → W pp l ee ({ frames := 417, cells := b0.1 - p.2.2.1, slots := b0.2 - p.2.2.2, locals := 10707 }) ss mm [.ref (ad 4 0)].toArray bb mt cd H locs (b0.1 - b.1) (b0.2 - b.2) (MQ bb (hp_Qv D vwCl (hp_Tl cA) sz (cd_pic cA ad ca0 σ0) (fun u => ∃ ca1, cd_inj ad ca1 ∧ u = cd_pic cA ad ca1 p.2.1)) [.ref (ad 4 0)].toArray ss (b0.1 - p.2.2.1) (b0.2 - p.2.2.2) (hp_A (cd_pic cA ad ca0 σ0) sz)) (F0 mm 123 ls []) := by
    intro ca hj σ b l1 H locs ls hb1 hb2 hf1 hf2 h hw hl
    refine lv_aload_n cx.1 cx.2.1 dX4_readMethod_123 rfl (lv_at hl 0 rfl) ?_
    obtain ⟨u1, e_u1, h⟩ := md_ob h
    have hb_u1 : u1 < 60 := (cd_dps e_u1).2
    refine cd_gP (o2 := 9) (u := u1) (o := 4) (k := 7) (f := 135) hj cx hw hic4 rfl ⟨by decide, rfl, by decide, rfl⟩ rfl (by decide) rfl e_u1 (List.mem_cons_of_mem _ cm_836) dX4_readMethod_124 ?_
    refine lv_lload_n cx.1 cx.2.1 dX4_readMethod_127 rfl (lv_at hl 1 rfl) ?_
    obtain ⟨σ2, e_σ2, h⟩ := md_ob h
    refine cd_pJ (o := 9) (k := 5) (f := 293) hj cx hw hic9 rfl ⟨by decide, rfl, by decide, rfl⟩ tyX9_ok nmX9 rfl (show _ < 60 by omega) rfl (List.mem_cons_of_mem _ cm_952) rfl e_σ2 dX4_readMethod_128 (fun H locs hw => ?_)
    refine lv_aload_n cx.1 cx.2.1 dX4_readMethod_131 rfl (lv_at hl 0 rfl) ?_
    refine cd_gO (o2 := 2) (e2 := 0) (o := 4) (k := 1) (f := 129) hj cx hw hic4 rfl ⟨by decide, rfl, by decide, rfl⟩ rfl (by decide) ⟨rfl, rfl⟩ (List.mem_cons_of_mem _ cm_722) dX4_readMethod_132 ?_
    refine lv_aload_n cx.1 cx.2.1 dX4_readMethod_135 rfl (lv_at hl 0 rfl) ?_
    refine cd_gI (o := 4) (k := 9) (f := 137) hj cx hw hic4 rfl ⟨by decide, rfl, by decide, rfl⟩ rfl (by decide) (List.mem_cons_of_mem _ cm_734) dX4_readMethod_136 ?_
    refine lv_aload_n cx.1 cx.2.1 dX4_readMethod_139 rfl (lv_at hl 0 rfl) ?_
    obtain ⟨u3, e_u3, h⟩ := md_ob h
    have hb_u3 : u3 < 60 := (cd_dps e_u3).2
    refine cd_gP (o2 := 9) (u := u3) (o := 4) (k := 7) (f := 135) hj cx hw hic4 rfl ⟨by decide, rfl, by decide, rfl⟩ rfl (by decide) rfl e_u3 (List.mem_cons_of_mem _ cm_836) dX4_readMethod_140 ?_
    refine cd_gI (o := 9) (k := 0) (f := 288) hj cx hw hic9 rfl ⟨by decide, rfl, by decide, rfl⟩ rfl (show _ < 60 by omega) (List.mem_cons_of_mem _ cm_750) dX4_readMethod_143 ?_
    obtain ⟨p4, e_p4, h⟩ := md_ob h
    refine hp_callVv (As := [.int (cI σ2 137 0), .int (cI σ2 288 u3)]) (rest := []) cx hw (kc_X2_addMethod l D cA E _ ad _ hj oq sgq sgv hE n σ2 ((cI σ2 137 0)) ((cI σ2 288 u3)) p4 e_p4) (cwV 2 cx.2.2.2.2.2.1 (cd_giV cm_953 cm_954 cm_955 cm_167 cm_956) rfl rfl rfl hdc_X2_addMethod ⟨Nat.le_of_ble_eq_true rfl, Nat.le_of_ble_eq_true rfl⟩) (cd_atO hj (by decide) (by decide)) rfl rfl hl.1 rfl (Nat.le_of_ble_eq_true rfl) dX4_readMethod_146 ⟨by (try dsimp only); omega, by (try dsimp only); omega⟩ (fun u H locs hp hw => ?_)
    obtain ⟨ca, hj, rfl⟩ := hp
    refine lv_aload_n cx.1 cx.2.1 dX4_readMethod_149 rfl (lv_at hl 0 rfl) ?_
    refine cd_gO (o2 := 10) (e2 := 0) (o := 4) (k := 0) (f := 128) hj cx hw hic4 rfl ⟨by decide, rfl, by decide, rfl⟩ rfl (by decide) ⟨rfl, rfl⟩ (List.mem_cons_of_mem _ cm_658) dX4_readMethod_150 ?_
    obtain ⟨p5, e_p5, h⟩ := md_ob h
    refine hp_callVv (As := []) (rest := []) cx hw (kc_X10_advance l D cA E _ ad _ hj oq sgq sgv hE n p4.2  p5 e_p5) (cwV 0 cx.2.2.2.2.2.1 (cd_giV cm_670 cm_671 cm_672 cm_301 cm_673) rfl rfl rfl hdc_X10_advance ⟨Nat.le_of_ble_eq_true rfl, Nat.le_of_ble_eq_true rfl⟩) (cd_atO hj (by decide) (by decide)) rfl rfl hl.1 rfl (Nat.le_of_ble_eq_true rfl) dX4_readMethod_153 ⟨by (try dsimp only); omega, by (try dsimp only); omega⟩ (fun u H locs hp hw => ?_)
    obtain ⟨ca, hj, rfl⟩ := hp
    refine lv_aload_n cx.1 cx.2.1 dX4_readMethod_156 rfl (lv_at hl 0 rfl) ?_
    refine lv_bipush (v := 61) cx.1 cx.2.1 dX4_readMethod_157 (by decide) ?_
    obtain ⟨q6, e_q6, h⟩ := md_ob h
    obtain ⟨hm7, hn7, h⟩ := cd_cks h
    have hM7 : p.2.2.1 ≤ (Sum.elim (fun (p : Int32 × cd_S × cd_B) => p.2.2) (fun (t : cd_S × cd_B) => t.2) q6).1 ∧ p.2.2.2 ≤ (Sum.elim (fun (p : Int32 × cd_S × cd_B) => p.2.2) (fun (t : cd_S × cd_B) => t.2) q6).2 := ⟨hm7, hn7⟩
    cases q6 with
    | inr t6 =>
      exact nomatch Option.some.inj h
    | inl p6 =>
      have hle6 := (kc_X4_pass l D cA E sz ad _ hj oq sgq sgv hE n p5.2 b (61 : Int32) p6 e_q6).1
      have hM10007 : p.2.2.1 ≤ p6.2.2.1 ∧ p.2.2.2 ≤ p6.2.2.2 := hM7
      have h := cd_inl h
      refine hp_callVv (As := [.int 61]) (rest := []) cx hw ((kc_X4_pass l D cA E _ ad _ hj oq sgq sgv hE n p5.2 b (61 : Int32) p6 e_q6).2) (cwV 1 cx.2.2.2.2.2.1 (cd_giV cm_714 cm_715 cm_716 cm_663 cm_717) rfl rfl rfl hdc_X4_pass ⟨Nat.le_of_ble_eq_true rfl, Nat.le_of_ble_eq_true rfl⟩) (cd_atO hj (by decide) (by decide)) rfl rfl hl.1 rfl (Nat.le_of_ble_eq_true rfl) dX4_readMethod_159 ⟨by (try dsimp only); omega, by (try dsimp only); omega⟩ (fun u H locs hp hw => ?_)
      obtain ⟨ca, hj, rfl⟩ := hp
      refine W.widen (k := b0.1 - p6.2.2.1) (n := b0.2 - p6.2.2.2) (by omega) (by omega) ?_
      refine lv_aload_n cx.1 cx.2.1 dX4_readMethod_162 rfl (lv_at hl 0 rfl) ?_
      refine lv_iconst (v := 1) cx.1 cx.2.1 dX4_readMethod_163 (by decide) ?_
      obtain ⟨q8, e_q8, h⟩ := md_ob h
      obtain ⟨hm9, hn9, h⟩ := cd_cks h
      have hM9 : p.2.2.1 ≤ (Sum.elim (fun (p : Int32 × cd_S × cd_B) => p.2.2) (fun (t : cd_S × cd_B) => t.2) q8).1 ∧ p.2.2.2 ≤ (Sum.elim (fun (p : Int32 × cd_S × cd_B) => p.2.2) (fun (t : cd_S × cd_B) => t.2) q8).2 := ⟨hm9, hn9⟩
      cases q8 with
      | inr t8 =>
        exact nomatch Option.some.inj h
      | inl p8 =>
        have hle8 := (oc_X4_readExpression l D cA E ad oq sgq sgv hE n sz _ hj p6.2.1 (p6.2.2) (1 : Int32) p8 e_q8).1
        have hM10009 : p.2.2.1 ≤ p8.2.2.1 ∧ p.2.2.2 ≤ p8.2.2.2 := hM9
        have h := cd_inl h
        refine hp_callVv (As := [.int 1]) (rest := []) cx hw ((oc_X4_readExpression l D cA E ad oq sgq sgv hE n _ _ hj p6.2.1 (p6.2.2) (1 : Int32) p8 e_q8).2) (cwV 1 cx.2.2.2.2.2.1 (cd_giV cm_760 cm_761 cm_762 cm_663 cm_763) rfl rfl rfl hdc_X4_readExpression ⟨by (try dsimp only); omega, by (try dsimp only); omega⟩) (cd_atO hj (by decide) (by decide)) rfl rfl hl.1 rfl (Nat.le_of_ble_eq_true rfl) dX4_readMethod_164 ⟨by (try dsimp only); omega, by (try dsimp only); omega⟩ (fun u H locs hp hw => ?_)
        obtain ⟨ca, hj, rfl⟩ := hp
        refine W.widen (k := b0.1 - p8.2.2.1) (n := b0.2 - p8.2.2.2) (by omega) (by omega) ?_
        refine lv_aload_n cx.1 cx.2.1 dX4_readMethod_167 rfl (lv_at hl 0 rfl) ?_
        obtain ⟨u10, e_u10, h⟩ := md_ob h
        have hb_u10 : u10 < 60 := (cd_dps e_u10).2
        refine cd_gP (o2 := 9) (u := u10) (o := 4) (k := 7) (f := 135) hj cx hw hic4 rfl ⟨by decide, rfl, by decide, rfl⟩ rfl (by decide) rfl e_u10 (List.mem_cons_of_mem _ cm_836) dX4_readMethod_168 ?_
        refine lv_bipush (v := 28) cx.1 cx.2.1 dX4_readMethod_171 (by decide) ?_
        refine lv_iconst (v := 0) cx.1 cx.2.1 dX4_readMethod_173 (by decide) ?_
        refine lv_iconst (v := 0) cx.1 cx.2.1 dX4_readMethod_174 (by decide) ?_
        obtain ⟨p11, e_p11, h⟩ := md_ob h
        obtain ⟨hm12, hn12, h⟩ := cd_cks h
        have hM12 : p.2.2.1 ≤ p11.2.2.1 ∧ p.2.2.2 ≤ p11.2.2.2 := ⟨hm12, hn12⟩
        have hle11 := (kc_X9_emit l D cA E sz ad _ hj oq sgq sgv hE n p8.2.1 (p8.2.2) u10 (28 : Int32) (0 : Int32) (0 : Int32) (show _ < 60 by omega) p11 e_p11).1
        refine hp_callVv (As := [.int 28, .int 0, .int 0]) (rest := []) cx hw ((kc_X9_emit l D cA E _ ad _ hj oq sgq sgv hE n p8.2.1 (p8.2.2) u10 (28 : Int32) (0 : Int32) (0 : Int32) (show _ < 60 by omega) p11 e_p11).2) (cwV 3 cx.2.2.2.2.2.1 (cd_giV cm_781 cm_782 cm_783 cm_114 cm_784) rfl rfl rfl hdc_X9_emit ⟨Nat.le_of_ble_eq_true rfl, Nat.le_of_ble_eq_true rfl⟩) (cd_atO hj (by decide) (show _ < 60 by omega)) rfl rfl hl.1 rfl (Nat.le_of_ble_eq_true rfl) dX4_readMethod_175 ⟨by (try dsimp only); omega, by (try dsimp only); omega⟩ (fun u H locs hp hw => ?_)
        obtain ⟨ca, hj, rfl⟩ := hp
        refine W.widen (k := b0.1 - p11.2.2.1) (n := b0.2 - p11.2.2.2) (by omega) (by omega) ?_
        refine lv_aload_n cx.1 cx.2.1 dX4_readMethod_178 rfl (lv_at hl 0 rfl) ?_
        refine lv_iconst (v := 0) cx.1 cx.2.1 dX4_readMethod_179 (by decide) ?_
        obtain ⟨σ13, e_σ13, h⟩ := md_ob h
        refine cd_pI (o := 4) (k := 6) (f := 134) hj cx hw hic4 rfl ⟨by decide, rfl, by decide, rfl⟩ tyX4_ok nmX4 rfl (by decide) rfl (List.mem_cons_of_mem _ cm_728) rfl e_σ13 dX4_readMethod_180 (fun H locs hw => ?_)
        refine lv_aload_n cx.1 cx.2.1 dX4_readMethod_183 rfl (lv_at hl 0 rfl) ?_
        refine lv_bipush (v := 59) cx.1 cx.2.1 dX4_readMethod_184 (by decide) ?_
        obtain ⟨q14, e_q14, h⟩ := md_ob h
        obtain ⟨hm15, hn15, h⟩ := cd_cks h
        have hM15 : p.2.2.1 ≤ (Sum.elim (fun (p : Int32 × cd_S × cd_B) => p.2.2) (fun (t : cd_S × cd_B) => t.2) q14).1 ∧ p.2.2.2 ≤ (Sum.elim (fun (p : Int32 × cd_S × cd_B) => p.2.2) (fun (t : cd_S × cd_B) => t.2) q14).2 := ⟨hm15, hn15⟩
        cases q14 with
        | inr t14 =>
          exact nomatch Option.some.inj h
        | inl p14 =>
          have hle14 := (kc_X4_pass l D cA E sz ad _ hj oq sgq sgv hE n σ13 (p11.2.2) (59 : Int32) p14 e_q14).1
          have hM10015 : p.2.2.1 ≤ p14.2.2.1 ∧ p.2.2.2 ≤ p14.2.2.2 := hM15
          have h := cd_inl h
          refine hp_callVv (As := [.int 59]) (rest := []) cx hw ((kc_X4_pass l D cA E _ ad _ hj oq sgq sgv hE n σ13 (p11.2.2) (59 : Int32) p14 e_q14).2) (cwV 1 cx.2.2.2.2.2.1 (cd_giV cm_714 cm_715 cm_716 cm_663 cm_717) rfl rfl rfl hdc_X4_pass ⟨Nat.le_of_ble_eq_true rfl, Nat.le_of_ble_eq_true rfl⟩) (cd_atO hj (by decide) (by decide)) rfl rfl hl.1 rfl (Nat.le_of_ble_eq_true rfl) dX4_readMethod_186 ⟨by (try dsimp only); omega, by (try dsimp only); omega⟩ (fun u H locs hp hw => ?_)
          obtain ⟨ca, hj, rfl⟩ := hp
          refine W.widen (k := b0.1 - p14.2.2.1) (n := b0.2 - p14.2.2.2) (by omega) (by omega) ?_
          exact hp_vret cx hw ((cd_retb hj (congrArg some (Sum.inl.inj (Option.some.inj h)))).2) dX4_readMethod_189 (cd_le1 (congrArg some (Sum.inl.inj (Option.some.inj h)))) (cd_le2 (congrArg some (Sum.inl.inj (Option.some.inj h))))
  have J85 : ∀ (ca : Nat → Nat) (hj : cd_inj ad ca) (σ : cd_S) (b : cd_B) (l1 : Int64) (t0 : Int32) (H : Heap) (locs : List Loc) (ls : Array Slot), b.1 ≤ b0.1 → b.2 ≤ b0.2 → p.2.2.1 ≤ b.1 → p.2.2.2 ≤ b.2 → f_X4_readMethod_J85 n σ b l1 t0 = some (Sum.inl p) → hp_w D vwCl (hp_Tl cA) E (hp_A (cd_pic cA ad ca0 σ0) sz) ss H locs (cd_pic cA ad ca σ) → lv_has ls 3 [(0, .ref (ad 4 0)), (1, .long l1)] → W pp l ee ({ frames := 417, cells := b0.1 - p.2.2.1, slots := b0.2 - p.2.2.2, locals := 10707 }) ss mm [.ref (ad 4 0)].toArray bb mt cd H locs (b0.1 - b.1) (b0.2 - b.2) (MQ bb (hp_Qv D vwCl (hp_Tl cA) sz (cd_pic cA ad ca0 σ0) (fun u => ∃ ca1, cd_inj ad ca1 ∧ u = cd_pic cA ad ca1 p.2.1)) [.ref (ad 4 0)].toArray ss (b0.1 - p.2.2.1) (b0.2 - p.2.2.2) (hp_A (cd_pic cA ad ca0 σ0) sz)) (F0 mm 85 ls [.int t0, .ref (ad 4 0)]) := by
    intro ca hj σ b l1 t0 H locs ls hb1 hb2 hf1 hf2 h hw hl
    obtain ⟨q16, e_q16, h⟩ := md_ob h
    obtain ⟨hm17, hn17, h⟩ := cd_cks h
    have hM17 : p.2.2.1 ≤ (Sum.elim (fun (p : Int32 × cd_S × cd_B) => p.2.2) (fun (t : cd_S × cd_B) => t.2) q16).1 ∧ p.2.2.2 ≤ (Sum.elim (fun (p : Int32 × cd_S × cd_B) => p.2.2) (fun (t : cd_S × cd_B) => t.2) q16).2 := ⟨hm17, hn17⟩
    cases q16 with
    | inr t16 =>
      exact nomatch Option.some.inj h
    | inl p16 =>
      have hle16 := (kc_X4_need l D cA E sz ad _ hj oq sgq sgv hE n σ b t0 p16 e_q16).1
      have hM10017 : p.2.2.1 ≤ p16.2.2.1 ∧ p.2.2.2 ≤ p16.2.2.2 := hM17
      have h := cd_inl h
      refine hp_callVv (As := [.int t0]) (rest := []) cx hw ((kc_X4_need l D cA E _ ad _ hj oq sgq sgv hE n σ b t0 p16 e_q16).2) (cwV 1 cx.2.2.2.2.2.1 (cd_giV cm_666 cm_667 cm_668 cm_663 cm_669) rfl rfl rfl hdc_X4_need ⟨Nat.le_of_ble_eq_true rfl, Nat.le_of_ble_eq_true rfl⟩) (cd_atO hj (by decide) (by decide)) rfl rfl hl.1 rfl (Nat.le_of_ble_eq_true rfl) dX4_readMethod_85 ⟨by (try dsimp only); omega, by (try dsimp only); omega⟩ (fun u H locs hp hw => ?_)
      obtain ⟨ca, hj, rfl⟩ := hp
      refine W.widen (k := b0.1 - p16.2.2.1) (n := b0.2 - p16.2.2.2) (by omega) (by omega) ?_
      refine lv_aload_n cx.1 cx.2.1 dX4_readMethod_88 rfl (lv_at hl 0 rfl) ?_
      refine cd_gO (o2 := 2) (e2 := 0) (o := 4) (k := 1) (f := 129) hj cx hw hic4 rfl ⟨by decide, rfl, by decide, rfl⟩ rfl (by decide) ⟨rfl, rfl⟩ (List.mem_cons_of_mem _ cm_722) dX4_readMethod_89 ?_
      refine lv_aload_n cx.1 cx.2.1 dX4_readMethod_92 rfl (lv_at hl 0 rfl) ?_
      refine cd_gI (o := 4) (k := 9) (f := 137) hj cx hw hic4 rfl ⟨by decide, rfl, by decide, rfl⟩ rfl (by decide) (List.mem_cons_of_mem _ cm_734) dX4_readMethod_93 ?_
      refine lv_lload_n cx.1 cx.2.1 dX4_readMethod_96 rfl (lv_at hl 1 rfl) ?_
      refine lv_aload_n cx.1 cx.2.1 dX4_readMethod_97 rfl (lv_at hl 0 rfl) ?_
      obtain ⟨u18, e_u18, h⟩ := md_ob h
      have hb_u18 : u18 < 60 := (cd_dps e_u18).2
      refine cd_gP (o2 := 9) (u := u18) (o := 4) (k := 7) (f := 135) hj cx hw hic4 rfl ⟨by decide, rfl, by decide, rfl⟩ rfl (by decide) rfl e_u18 (List.mem_cons_of_mem _ cm_836) dX4_readMethod_98 ?_
      refine cd_gI (o := 9) (k := 6) (f := 294) hj cx hw hic9 rfl ⟨by decide, rfl, by decide, rfl⟩ rfl (show _ < 60 by omega) (List.mem_cons_of_mem _ cm_806) dX4_readMethod_101 ?_
      obtain ⟨p19, e_p19, h⟩ := md_ob h
      refine hp_callVi (As := [.int (cI p16.2.1 137 0), .long l1, .int (cI p16.2.1 294 u18)]) (rest := []) cx hw (kc_X2_ownMethod l D cA E _ ad _ hj oq sgq sgv hE n p16.2.1 ((cI p16.2.1 137 0)) l1 ((cI p16.2.1 294 u18)) p19 e_p19) (cwV 3 cx.2.2.2.2.2.1 (cd_giV cm_950 cm_398 cm_399 cm_167 cm_400) rfl rfl rfl hdc_X2_ownMethod ⟨Nat.le_of_ble_eq_true rfl, Nat.le_of_ble_eq_true rfl⟩) (cd_atO hj (by decide) (by decide)) rfl rfl hl.1 rfl (Nat.le_of_ble_eq_true rfl) dX4_readMethod_104 ⟨by (try dsimp only); omega, by (try dsimp only); omega⟩ (fun r u H locs hp hw => ?_)
      obtain ⟨rfl, ca, hj, rfl⟩ := hp
      refine lv_iconst (v := (-1)) cx.1 cx.2.1 dX4_readMethod_107 (by decide) ?_
      refine lv_icmp_eq (tgt := 123) cx.1 cx.2.1 dX4_readMethod_108 (by decide) (fun c108 => ?_) (fun c108 => ?_)
      · have h := md_ip c108 h
        exact J123 _ hj p19.2 (p16.2.2) l1 _ _ _ (by omega) (by omega) (by omega) (by omega) h hw (lv_sub hl [0, 1] rfl)
      · have h := md_in c108 h
        refine lv_aload_n cx.1 cx.2.1 dX4_readMethod_111 rfl (lv_at hl 0 rfl) ?_
        refine lv_iconst (v := 2) cx.1 cx.2.1 dX4_readMethod_112 (by decide) ?_
        refine lv_aload_n cx.1 cx.2.1 dX4_readMethod_113 rfl (lv_at hl 0 rfl) ?_
        obtain ⟨u20, e_u20, h⟩ := md_ob h
        have hb_u20 : u20 < 60 := (cd_dps e_u20).2
        refine cd_gP (o2 := 9) (u := u20) (o := 4) (k := 7) (f := 135) hj cx hw hic4 rfl ⟨by decide, rfl, by decide, rfl⟩ rfl (by decide) rfl e_u20 (List.mem_cons_of_mem _ cm_836) dX4_readMethod_114 ?_
        refine cd_gI (o := 9) (k := 4) (f := 292) hj cx hw hic9 rfl ⟨by decide, rfl, by decide, rfl⟩ rfl (show _ < 60 by omega) (List.mem_cons_of_mem _ cm_951) dX4_readMethod_117 ?_
        obtain ⟨q21, e_q21, h⟩ := md_ob h
        obtain ⟨hm22, hn22, h⟩ := cd_cks h
        have hM22 : p.2.2.1 ≤ (Sum.elim (fun (p : Int32 × cd_S × cd_B) => p.2.2) (fun (t : cd_S × cd_B) => t.2) q21).1 ∧ p.2.2.2 ≤ (Sum.elim (fun (p : Int32 × cd_S × cd_B) => p.2.2) (fun (t : cd_S × cd_B) => t.2) q21).2 := ⟨hm22, hn22⟩
        cases q21 with
        | inr t21 =>
          exact nomatch Option.some.inj h
        | inl p21 =>
          have hle21 := (kc_X4_refuse l D cA E sz ad _ hj oq sgq sgv hE n p19.2 (p16.2.2) (2 : Int32) ((cI p19.2 292 u20)) p21 e_q21).1
          have hM10022 : p.2.2.1 ≤ p21.2.2.1 ∧ p.2.2.2 ≤ p21.2.2.2 := hM22
          have h := cd_inl h
          refine hp_callVv (As := [.int 2, .int (cI p19.2 292 u20)]) (rest := []) cx hw ((kc_X4_refuse l D cA E _ ad _ hj oq sgq sgv hE n p19.2 (p16.2.2) (2 : Int32) ((cI p19.2 292 u20)) p21 e_q21).2) (cwV 2 cx.2.2.2.2.2.1 (cd_giV cm_660 cm_661 cm_662 cm_663 cm_664) rfl rfl rfl hdc_X4_refuse ⟨Nat.le_of_ble_eq_true rfl, Nat.le_of_ble_eq_true rfl⟩) (cd_atO hj (by decide) (by decide)) rfl rfl hl.1 rfl (Nat.le_of_ble_eq_true rfl) dX4_readMethod_120 ⟨by (try dsimp only); omega, by (try dsimp only); omega⟩ (fun u H locs hp hw => ?_)
          obtain ⟨ca, hj, rfl⟩ := hp
          refine W.widen (k := b0.1 - p21.2.2.1) (n := b0.2 - p21.2.2.2) (by omega) (by omega) ?_
          exact J123 _ hj p21.2.1 (p21.2.2) l1 _ _ _ (by omega) (by omega) (by omega) (by omega) h hw (lv_sub hl [0, 1] rfl)
  have J22 : ∀ (ca : Nat → Nat) (hj : cd_inj ad ca) (σ : cd_S) (b : cd_B) (t0 : Int32) (H : Heap) (locs : List Loc) (ls : Array Slot), b.1 ≤ b0.1 → b.2 ≤ b0.2 → p.2.2.1 ≤ b.1 → p.2.2.2 ≤ b.2 → f_X4_readMethod_J22 n σ b t0 = some (Sum.inl p) → hp_w D vwCl (hp_Tl cA) E (hp_A (cd_pic cA ad ca0 σ0) sz) ss H locs (cd_pic cA ad ca σ) → lv_has ls 3 [(0, .ref (ad 4 0))] → W pp l ee ({ frames := 417, cells := b0.1 - p.2.2.1, slots := b0.2 - p.2.2.2, locals := 10707 }) ss mm [.ref (ad 4 0)].toArray bb mt cd H locs (b0.1 - b.1) (b0.2 - b.2) (MQ bb (hp_Qv D vwCl (hp_Tl cA) sz (cd_pic cA ad ca0 σ0) (fun u => ∃ ca1, cd_inj ad ca1 ∧ u = cd_pic cA ad ca1 p.2.1)) [.ref (ad 4 0)].toArray ss (b0.1 - p.2.2.1) (b0.2 - p.2.2.2) (hp_A (cd_pic cA ad ca0 σ0) sz)) (F0 mm 22 ls [.int t0, .ref (ad 4 0)]) := by
    intro ca hj σ b t0 H locs ls hb1 hb2 hf1 hf2 h hw hl
    obtain ⟨q23, e_q23, h⟩ := md_ob h
    obtain ⟨hm24, hn24, h⟩ := cd_cks h
    have hM24 : p.2.2.1 ≤ (Sum.elim (fun (p : Int32 × cd_S × cd_B) => p.2.2) (fun (t : cd_S × cd_B) => t.2) q23).1 ∧ p.2.2.2 ≤ (Sum.elim (fun (p : Int32 × cd_S × cd_B) => p.2.2) (fun (t : cd_S × cd_B) => t.2) q23).2 := ⟨hm24, hn24⟩
    cases q23 with
    | inr t23 =>
      exact nomatch Option.some.inj h
    | inl p23 =>
      have hle23 := (kc_X4_room l D cA E sz ad _ hj oq sgq sgv hE n σ b t0 p23 e_q23).1
      have hM10024 : p.2.2.1 ≤ p23.2.2.1 ∧ p.2.2.2 ≤ p23.2.2.2 := hM24
      have h := cd_inl h
      refine hp_callVv (As := [.int t0]) (rest := []) cx hw ((kc_X4_room l D cA E _ ad _ hj oq sgq sgv hE n σ b t0 p23 e_q23).2) (cwV 1 cx.2.2.2.2.2.1 (cd_giV cm_691 cm_692 cm_693 cm_663 cm_694) rfl rfl rfl hdc_X4_room ⟨Nat.le_of_ble_eq_true rfl, Nat.le_of_ble_eq_true rfl⟩) (cd_atO hj (by decide) (by decide)) rfl rfl hl.1 rfl (Nat.le_of_ble_eq_true rfl) dX4_readMethod_22 ⟨by (try dsimp only); omega, by (try dsimp only); omega⟩ (fun u H locs hp hw => ?_)
      obtain ⟨ca, hj, rfl⟩ := hp
      refine W.widen (k := b0.1 - p23.2.2.1) (n := b0.2 - p23.2.2.2) (by omega) (by omega) ?_
      refine lv_aload_n cx.1 cx.2.1 dX4_readMethod_25 rfl (lv_at hl 0 rfl) ?_
      refine lv_aload_n cx.1 cx.2.1 dX4_readMethod_26 rfl (lv_at hl 0 rfl) ?_
      refine lv_iconst (v := 0) cx.1 cx.2.1 dX4_readMethod_27 (by decide) ?_
      obtain ⟨q25, e_q25, h⟩ := md_ob h
      obtain ⟨hm26, hn26, h⟩ := cd_cks h
      have hM26 : p.2.2.1 ≤ (Sum.elim (fun (p : Nat × cd_S × cd_B) => p.2.2) (fun (t : cd_S × cd_B) => t.2) q25).1 ∧ p.2.2.2 ≤ (Sum.elim (fun (p : Nat × cd_S × cd_B) => p.2.2) (fun (t : cd_S × cd_B) => t.2) q25).2 := ⟨hm26, hn26⟩
      cases q25 with
      | inr t25 =>
        exact nomatch Option.some.inj h
      | inl p25 =>
        have hle25 := (kc_X4_openUnit l D cA E sz ad _ hj oq sgq sgv hE n p23.2.1 (p23.2.2) (0 : Int32) p25 e_q25).1
        have hM10026 : p.2.2.1 ≤ p25.2.2.1 ∧ p.2.2.2 ≤ p25.2.2.2 := hM26
        have h := cd_inl h
        refine hp_callVr (As := [.int 0]) (rest := [.ref (ad 4 0)]) cx hw ((kc_X4_openUnit l D cA E _ ad _ hj oq sgq sgv hE n p23.2.1 (p23.2.2) (0 : Int32) p25 e_q25).2) (cwV 1 cx.2.2.2.2.2.1 (cd_giV cm_807 cm_808 cm_809 cm_663 cm_810) rfl rfl rfl hdc_X4_openUnit ⟨Nat.le_of_ble_eq_true rfl, Nat.le_of_ble_eq_true rfl⟩) (cd_atO hj (by decide) (by decide)) rfl rfl hl.1 rfl (Nat.le_of_ble_eq_true rfl) dX4_readMethod_28 ⟨by (try dsimp only); omega, by (try dsimp only); omega⟩ (fun r u H locs hp hw => ?_)
        obtain ⟨⟨hb_p25, rfl⟩, ca, hj, rfl⟩ := hp
        refine W.widen (k := b0.1 - p25.2.2.1) (n := b0.2 - p25.2.2.2) (by omega) (by omega) ?_
        obtain ⟨σ27, e_σ27, h⟩ := md_ob h
        refine cd_pP (u := p25.1) (o2 := 9) (o := 4) (k := 7) (f := 135) hj cx hw hic4 rfl ⟨by decide, rfl, by decide, rfl⟩ tyX4_ok nmX4 rfl (by decide) rfl (List.mem_cons_of_mem _ cm_836) rfl rfl e_σ27 dX4_readMethod_31 (fun H locs hw => ?_)
        refine lv_aload_n cx.1 cx.2.1 dX4_readMethod_34 rfl (lv_at hl 0 rfl) ?_
        refine lv_aload_n cx.1 cx.2.1 dX4_readMethod_35 rfl (lv_at hl 0 rfl) ?_
        obtain ⟨u28, e_u28, h⟩ := md_ob h
        have hb_u28 : u28 < 60 := (cd_dps e_u28).2
        refine cd_gP (o2 := 9) (u := u28) (o := 4) (k := 7) (f := 135) hj cx hw hic4 rfl ⟨by decide, rfl, by decide, rfl⟩ rfl (by decide) rfl e_u28 (List.mem_cons_of_mem _ cm_836) dX4_readMethod_36 ?_
        obtain ⟨σ29, e_σ29, h⟩ := md_ob h
        refine cd_pP (u := u28) (o2 := 9) (o := 4) (k := 8) (f := 136) hj cx hw hic4 rfl ⟨by decide, rfl, by decide, rfl⟩ tyX4_ok nmX4 rfl (by decide) rfl (List.mem_cons_of_mem _ cm_749) rfl rfl e_σ29 dX4_readMethod_39 (fun H locs hw => ?_)
        refine lv_aload_n cx.1 cx.2.1 dX4_readMethod_42 rfl (lv_at hl 0 rfl) ?_
        refine cd_gO (o2 := 10) (e2 := 0) (o := 4) (k := 0) (f := 128) hj cx hw hic4 rfl ⟨by decide, rfl, by decide, rfl⟩ rfl (by decide) ⟨rfl, rfl⟩ (List.mem_cons_of_mem _ cm_658) dX4_readMethod_43 ?_
        refine cd_gJ (o := 10) (k := 10) (f := 330) hj cx hw hic10 rfl ⟨by decide, rfl, by decide, rfl⟩ rfl (by decide) (List.mem_cons_of_mem _ cm_695) dX4_readMethod_46 ?_
        refine lv_lstore_n (lv' := [(1, .long (cJ σ29 330 0)), (0, .ref (ad 4 0))]) cx.1 cx.2.1 dX4_readMethod_49 rfl hl (by decide) rfl (fun ls hl => ?_)
        refine lv_aload_n cx.1 cx.2.1 dX4_readMethod_50 rfl (lv_at hl 1 rfl) ?_
        refine cd_gO (o2 := 10) (e2 := 0) (o := 4) (k := 0) (f := 128) hj cx hw hic4 rfl ⟨by decide, rfl, by decide, rfl⟩ rfl (by decide) ⟨rfl, rfl⟩ (List.mem_cons_of_mem _ cm_658) dX4_readMethod_51 ?_
        obtain ⟨p30, e_p30, h⟩ := md_ob h
        refine hp_callVv (As := []) (rest := []) cx hw (kc_X10_advance l D cA E _ ad _ hj oq sgq sgv hE n σ29  p30 e_p30) (cwV 0 cx.2.2.2.2.2.1 (cd_giV cm_670 cm_671 cm_672 cm_301 cm_673) rfl rfl rfl hdc_X10_advance ⟨Nat.le_of_ble_eq_true rfl, Nat.le_of_ble_eq_true rfl⟩) (cd_atO hj (by decide) (by decide)) rfl rfl hl.1 rfl (Nat.le_of_ble_eq_true rfl) dX4_readMethod_54 ⟨by (try dsimp only); omega, by (try dsimp only); omega⟩ (fun u H locs hp hw => ?_)
        obtain ⟨ca, hj, rfl⟩ := hp
        refine lv_aload_n cx.1 cx.2.1 dX4_readMethod_57 rfl (lv_at hl 1 rfl) ?_
        refine lv_bipush (v := 40) cx.1 cx.2.1 dX4_readMethod_58 (by decide) ?_
        obtain ⟨q31, e_q31, h⟩ := md_ob h
        obtain ⟨hm32, hn32, h⟩ := cd_cks h
        have hM32 : p.2.2.1 ≤ (Sum.elim (fun (p : Int32 × cd_S × cd_B) => p.2.2) (fun (t : cd_S × cd_B) => t.2) q31).1 ∧ p.2.2.2 ≤ (Sum.elim (fun (p : Int32 × cd_S × cd_B) => p.2.2) (fun (t : cd_S × cd_B) => t.2) q31).2 := ⟨hm32, hn32⟩
        cases q31 with
        | inr t31 =>
          exact nomatch Option.some.inj h
        | inl p31 =>
          have hle31 := (kc_X4_pass l D cA E sz ad _ hj oq sgq sgv hE n p30.2 (p25.2.2) (40 : Int32) p31 e_q31).1
          have hM10032 : p.2.2.1 ≤ p31.2.2.1 ∧ p.2.2.2 ≤ p31.2.2.2 := hM32
          have h := cd_inl h
          refine hp_callVv (As := [.int 40]) (rest := []) cx hw ((kc_X4_pass l D cA E _ ad _ hj oq sgq sgv hE n p30.2 (p25.2.2) (40 : Int32) p31 e_q31).2) (cwV 1 cx.2.2.2.2.2.1 (cd_giV cm_714 cm_715 cm_716 cm_663 cm_717) rfl rfl rfl hdc_X4_pass ⟨Nat.le_of_ble_eq_true rfl, Nat.le_of_ble_eq_true rfl⟩) (cd_atO hj (by decide) (by decide)) rfl rfl hl.1 rfl (Nat.le_of_ble_eq_true rfl) dX4_readMethod_60 ⟨by (try dsimp only); omega, by (try dsimp only); omega⟩ (fun u H locs hp hw => ?_)
          obtain ⟨ca, hj, rfl⟩ := hp
          refine W.widen (k := b0.1 - p31.2.2.1) (n := b0.2 - p31.2.2.2) (by omega) (by omega) ?_
          refine lv_aload_n cx.1 cx.2.1 dX4_readMethod_63 rfl (lv_at hl 1 rfl) ?_
          obtain ⟨q33, e_q33, h⟩ := md_ob h
          obtain ⟨hm34, hn34, h⟩ := cd_cks h
          have hM34 : p.2.2.1 ≤ (Sum.elim (fun (p : Int32 × cd_S × cd_B) => p.2.2) (fun (t : cd_S × cd_B) => t.2) q33).1 ∧ p.2.2.2 ≤ (Sum.elim (fun (p : Int32 × cd_S × cd_B) => p.2.2) (fun (t : cd_S × cd_B) => t.2) q33).2 := ⟨hm34, hn34⟩
          cases q33 with
          | inr t33 =>
            exact nomatch Option.some.inj h
          | inl p33 =>
            have hle33 := (kc_X4_readParameters l D cA E sz ad _ hj oq sgq sgv hE n p31.2.1 (p31.2.2)  p33 e_q33).1
            have hM10034 : p.2.2.1 ≤ p33.2.2.1 ∧ p.2.2.2 ≤ p33.2.2.2 := hM34
            have h := cd_inl h
            refine hp_callVv (As := []) (rest := []) cx hw ((kc_X4_readParameters l D cA E _ ad _ hj oq sgq sgv hE n p31.2.1 (p31.2.2)  p33 e_q33).2) (cwV 0 cx.2.2.2.2.2.1 (cd_giV cm_811 cm_812 cm_813 cm_663 cm_814) rfl rfl rfl hdc_X4_readParameters ⟨Nat.le_of_ble_eq_true rfl, Nat.le_of_ble_eq_true rfl⟩) (cd_atO hj (by decide) (by decide)) rfl rfl hl.1 rfl (Nat.le_of_ble_eq_true rfl) dX4_readMethod_64 ⟨by (try dsimp only); omega, by (try dsimp only); omega⟩ (fun u H locs hp hw => ?_)
            obtain ⟨ca, hj, rfl⟩ := hp
            refine W.widen (k := b0.1 - p33.2.2.1) (n := b0.2 - p33.2.2.2) (by omega) (by omega) ?_
            refine lv_aload_n cx.1 cx.2.1 dX4_readMethod_67 rfl (lv_at hl 1 rfl) ?_
            refine lv_aload_n cx.1 cx.2.1 dX4_readMethod_68 rfl (lv_at hl 1 rfl) ?_
            refine cd_gO (o2 := 10) (e2 := 0) (o := 4) (k := 0) (f := 128) hj cx hw hic4 rfl ⟨by decide, rfl, by decide, rfl⟩ rfl (by decide) ⟨rfl, rfl⟩ (List.mem_cons_of_mem _ cm_658) dX4_readMethod_69 ?_
            refine cd_gI (o := 10) (k := 8) (f := 328) hj cx hw hic10 rfl ⟨by decide, rfl, by decide, rfl⟩ rfl (by decide) (List.mem_cons_of_mem _ cm_665) dX4_readMethod_72 ?_
            refine lv_bipush (v := 41) cx.1 cx.2.1 dX4_readMethod_75 (by decide) ?_
            refine lv_icmp_ne (tgt := 84) cx.1 cx.2.1 dX4_readMethod_77 (by decide) (fun c77 => ?_) (fun c77 => ?_)
            · have h := md_in c77 h
              refine lv_iconst (v := 0) cx.1 cx.2.1 dX4_readMethod_84 (by decide) ?_
              exact J85 _ hj p33.2.1 (p33.2.2) ((cJ σ29 330 0)) 0 _ _ _ (by omega) (by omega) (by omega) (by omega) h hw (lv_sub hl [1, 0] rfl)
            · have h := md_ip c77 h
              refine lv_iconst (v := 1) cx.1 cx.2.1 dX4_readMethod_80 (by decide) ?_
              refine lv_goto (tgt := 85) cx.1 cx.2.1 dX4_readMethod_81 (by decide) ?_
              exact J85 _ hj p33.2.1 (p33.2.2) ((cJ σ29 330 0)) 1 _ _ _ (by omega) (by omega) (by omega) (by omega) h hw (lv_sub hl [1, 0] rfl)
  refine lv_aload_n cx.1 cx.2.1 dX4_readMethod_0 rfl (lv_at hl 0 rfl) ?_
  refine lv_aload_n cx.1 cx.2.1 dX4_readMethod_1 rfl (lv_at hl 0 rfl) ?_
  refine cd_gO (o2 := 2) (e2 := 0) (o := 4) (k := 1) (f := 129) hj cx hw hic4 rfl ⟨by decide, rfl, by decide, rfl⟩ rfl (by decide) ⟨rfl, rfl⟩ (List.mem_cons_of_mem _ cm_722) dX4_readMethod_2 ?_
  refine lv_aload_n cx.1 cx.2.1 dX4_readMethod_5 rfl (lv_at hl 0 rfl) ?_
  refine cd_gI (o := 4) (k := 9) (f := 137) hj cx hw hic4 rfl ⟨by decide, rfl, by decide, rfl⟩ rfl (by decide) (List.mem_cons_of_mem _ cm_734) dX4_readMethod_6 ?_
  obtain ⟨p35, e_p35, h⟩ := md_ob h
  refine hp_callVi (As := [.int (cI σ0 137 0)]) (rest := [.ref (ad 4 0)]) cx hw (kc_X2_methodCount l D cA E _ ad _ hj oq sgq sgv hE n σ0 ((cI σ0 137 0)) p35 e_p35) (cwV 1 cx.2.2.2.2.2.1 (cd_giV cm_946 cm_947 cm_948 cm_167 cm_949) rfl rfl rfl hdc_X2_methodCount ⟨Nat.le_of_ble_eq_true rfl, Nat.le_of_ble_eq_true rfl⟩) (cd_atO hj (by decide) (by decide)) rfl rfl hl.1 rfl (Nat.le_of_ble_eq_true rfl) dX4_readMethod_9 ⟨by (try dsimp only); omega, by (try dsimp only); omega⟩ (fun r u H locs hp hw => ?_)
  obtain ⟨rfl, ca, hj, rfl⟩ := hp
  refine lv_bipush (v := 12) cx.1 cx.2.1 dX4_readMethod_12 (by decide) ?_
  refine lv_icmp_ge (tgt := 21) cx.1 cx.2.1 dX4_readMethod_14 (by decide) (fun c14 => ?_) (fun c14 => ?_)
  · have h := md_ip c14 h
    refine lv_iconst (v := 0) cx.1 cx.2.1 dX4_readMethod_21 (by decide) ?_
    exact J22 _ hj p35.2 b0 0 _ _ _ (by omega) (by omega) (by omega) (by omega) h hw (lv_sub hl [0] rfl)
  · have h := md_in c14 h
    refine lv_iconst (v := 1) cx.1 cx.2.1 dX4_readMethod_17 (by decide) ?_
    refine lv_goto (tgt := 22) cx.1 cx.2.1 dX4_readMethod_18 (by decide) ?_
    exact J22 _ hj p35.2 b0 1 _ _ _ (by omega) (by omega) (by omega) (by omega) h hw (lv_sub hl [0] rfl)
