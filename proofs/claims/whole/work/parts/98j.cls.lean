set_option maxHeartbeats 4000000 in
set_option maxRecDepth 100000 in
theorem kc_X4_readRow (l : Launch) (D : va_G) (cA : Nat → ClassId) (E : hp_N) (sz : Nat) (ad : Nat → Nat → Nat) (ca0 : Nat → Nat) (hj : cd_inj ad ca0) (oq sgq sgv : Nat) (hE : cd_E E oq sgq sgv) (n d : Nat) (rec : cd_R) (in0 : ∀ (sz : Nat) (ca : Nat → Nat) (_ : cd_inj ad ca) (σ : cd_S) (b : cd_B) (a1 : Int32) (p : Int32 × cd_S × cd_B), rec 0 0 a1 0 σ b = some (Sum.inl p) → (p.2.2.1 ≤ b.1 ∧ p.2.2.2 ≤ b.2) ∧ Met l yX4_readExpression (Cond.code yX4_readExpression cX4_readExpression 2 none :: v_CLS) ({ frames := d + 16, cells := b.1 - p.2.2.1, slots := b.2 - p.2.2.2, locals := 26 * d + 286 }) (hp_Pc D vwCl (hp_Tl cA) E sz (cd_pic cA ad ca σ) [.ref (ad 4 0), .int a1]) (hp_Qv D vwCl (hp_Tl cA) sz (cd_pic cA ad ca σ) (fun u => ∃ ca1, cd_inj ad ca1 ∧ u = cd_pic cA ad ca1 p.2.1)) (b.1 - p.2.2.1) (b.2 - p.2.2.2) (hp_A (cd_pic cA ad ca σ) sz)) (σ0 : cd_S) (b0 : cd_B) (a1 : Int32) (p : (Int32 × cd_S × cd_B)) (h : f_X4_readRow n rec σ0 b0 a1 = some (Sum.inl p)) : (p.2.2.1 ≤ b0.1 ∧ p.2.2.2 ≤ b0.2) ∧ Met l yX4_readRow (Cond.code yX4_readRow cX4_readRow 3 none :: v_CLS) ({ frames := (d + 1) + 16, cells := b0.1 - p.2.2.1, slots := b0.2 - p.2.2.2, locals := 26 * (d + 1) + 286 }) (hp_Pc D vwCl (hp_Tl cA) E sz (cd_pic cA ad ca0 σ0) [.ref (ad 4 0), .int a1]) (hp_Qv D vwCl (hp_Tl cA) sz (cd_pic cA ad ca0 σ0) (fun u => ∃ ca1, cd_inj ad ca1 ∧ u = cd_pic cA ad ca1 p.2.1)) (b0.1 - p.2.2.1) (b0.2 - p.2.2.2) (hp_A (cd_pic cA ad ca0 σ0) sz) := by
  obtain ⟨hm0, hn0, h⟩ := cd_cks h
  have hM0 : p.2.2.1 ≤ b0.1 ∧ p.2.2.2 ≤ b0.2 := ⟨hm0, hn0⟩
  refine ⟨hM0, ?_⟩
  refine hp_ofW (cc := cX4_readRow) (maxL := 3) (ret := none) (by decide) rfl (Nat.le_of_ble_eq_true rfl) ?_
  intro pp ee ss mm bb mt cd ls cx hsz hw hl
  have hl : lv_has ls 3 [(0, .ref (ad 4 0)), (1, .int a1)] := hl
  refine W.widen (k := b0.1 - b0.1) (n := b0.2 - b0.2) (Nat.zero_le _) (Nat.zero_le _) ?_
  refine lv_aload_n cx.1 cx.2.1 dX4_readRow_0 rfl (lv_at hl 0 rfl) ?_
  refine cd_gO (o2 := 10) (e2 := 0) (o := 4) (k := 0) (f := 128) hj cx hw hic4 rfl ⟨by decide, rfl, by decide, rfl⟩ rfl (by decide) ⟨rfl, rfl⟩ (List.mem_cons_of_mem _ cm_658) dX4_readRow_1 ?_
  obtain ⟨p1, e_p1, h⟩ := md_ob h
  refine hp_callVv (As := []) (rest := []) cx hw (kc_X10_advance l D cA E _ ad _ hj oq sgq sgv hE n σ0  p1 e_p1) (cwV 0 cx.2.2.2.2.2.1 (cd_giV cm_670 cm_671 cm_672 cm_301 cm_673) rfl rfl rfl hdc_X10_advance ⟨by (try dsimp only); omega, by (try dsimp only); omega⟩) (cd_atO hj (by decide) (by decide)) rfl rfl hl.1 rfl (Nat.le_of_ble_eq_true rfl) dX4_readRow_4 ⟨by (try dsimp only); omega, by (try dsimp only); omega⟩ (fun u H locs hp hw => ?_)
  obtain ⟨ca, hj, rfl⟩ := hp
  refine lv_aload_n cx.1 cx.2.1 dX4_readRow_7 rfl (lv_at hl 0 rfl) ?_
  refine lv_iload_n cx.1 cx.2.1 dX4_readRow_8 rfl (lv_at hl 1 rfl) ?_
  refine lv_iconst (v := 1) cx.1 cx.2.1 dX4_readRow_9 (by decide) ?_
  refine lv_iadd cx.1 cx.2.1 dX4_readRow_10 ?_
  obtain ⟨q2, e_q2, h⟩ := md_ob h
  obtain ⟨hm3, hn3, h⟩ := cd_cks h
  have hM3 : p.2.2.1 ≤ (Sum.elim (fun (p : Int32 × cd_S × cd_B) => p.2.2) (fun (t : cd_S × cd_B) => t.2) q2).1 ∧ p.2.2.2 ≤ (Sum.elim (fun (p : Int32 × cd_S × cd_B) => p.2.2) (fun (t : cd_S × cd_B) => t.2) q2).2 := ⟨hm3, hn3⟩
  cases q2 with
  | inr t2 =>
    exact nomatch Option.some.inj h
  | inl p2 =>
    have hle2 := (in0 sz _ hj p1.2 b0 ((a1 + 1)) p2 e_q2).1
    have hM10003 : p.2.2.1 ≤ p2.2.2.1 ∧ p.2.2.2 ≤ p2.2.2.2 := hM3
    have h := cd_inl h
    refine hp_callVv (As := [.int (a1 + 1)]) (rest := []) cx hw ((in0 _ _ hj p1.2 b0 ((a1 + 1)) p2 e_q2).2) (cwV 1 cx.2.2.2.2.2.1 (cd_giV cm_760 cm_761 cm_762 cm_663 cm_763) rfl rfl rfl hdc_X4_readExpression ⟨by (try dsimp only); omega, by (try dsimp only); omega⟩) (cd_atO hj (by decide) (by decide)) rfl rfl hl.1 rfl (Nat.le_of_ble_eq_true rfl) dX4_readRow_11 ⟨by (try dsimp only); omega, by (try dsimp only); omega⟩ (fun u H locs hp hw => ?_)
    obtain ⟨ca, hj, rfl⟩ := hp
    refine W.widen (k := b0.1 - p2.2.2.1) (n := b0.2 - p2.2.2.2) (by omega) (by omega) ?_
    refine lv_iconst (v := 0) cx.1 cx.2.1 dX4_readRow_14 (by decide) ?_
    refine lv_istore_n (lv' := [(2, .int 0), (0, .ref (ad 4 0)), (1, .int a1)]) cx.1 cx.2.1 dX4_readRow_15 rfl hl (by decide) rfl (fun ls hl => ?_)
    have L16 : ∀ (j : Nat) (ca : Nat → Nat) (hj : cd_inj ad ca) (σ : cd_S) (b : cd_B) (l1 : Int32) (l2 : Int32) (q : (((Int32 × cd_S × cd_B) ⊕ (cd_S × cd_B)) ⊕ (cd_S × cd_B × Int32))) (H : Heap) (locs : List Loc) (ls : Array Slot), b.1 ≤ b0.1 → b.2 ≤ b0.2 → p.2.2.1 ≤ b.1 → p.2.2.2 ≤ b.2 → p.2.2.1 ≤ (Sum.elim (fun (q : ((Int32 × cd_S × cd_B) ⊕ (cd_S × cd_B))) => Sum.elim (fun (p : (Int32 × cd_S × cd_B)) => p.2.2) (fun (t : cd_S × cd_B) => t.2) q) (fun (q : cd_S × cd_B × Int32) => q.2.1) q).1 → p.2.2.2 ≤ (Sum.elim (fun (q : ((Int32 × cd_S × cd_B) ⊕ (cd_S × cd_B))) => Sum.elim (fun (p : (Int32 × cd_S × cd_B)) => p.2.2) (fun (t : cd_S × cd_B) => t.2) q) (fun (q : cd_S × cd_B × Int32) => q.2.1) q).2 → f_X4_readRow_L16 n rec l1 j σ b l2 = some q → hp_w D vwCl (hp_Tl cA) E (hp_A (cd_pic cA ad ca0 σ0) sz) ss H locs (cd_pic cA ad ca σ) → lv_has ls 3 [(0, .ref (ad 4 0)), (1, .int l1), (2, .int l2)] → (∀ t, q = Sum.inr t → (∀ (ca : Nat → Nat) (hj : cd_inj ad ca) (H : Heap) (locs : List Loc) (ls : Array Slot), t.2.1.1 ≤ b0.1 → t.2.1.2 ≤ b0.2 → hp_w D vwCl (hp_Tl cA) E (hp_A (cd_pic cA ad ca0 σ0) sz) ss H locs (cd_pic cA ad ca t.1) → lv_has ls 3 [(0, .ref (ad 4 0))] → W pp l ee ({ frames := (d + 1) + 16, cells := b0.1 - p.2.2.1, slots := b0.2 - p.2.2.2, locals := 26 * (d + 1) + 286 }) ss mm [.ref (ad 4 0), .int a1].toArray bb mt cd H locs (b0.1 - t.2.1.1) (b0.2 - t.2.1.2) (MQ bb (hp_Qv D vwCl (hp_Tl cA) sz (cd_pic cA ad ca0 σ0) (fun u => ∃ ca1, cd_inj ad ca1 ∧ u = cd_pic cA ad ca1 p.2.1)) [.ref (ad 4 0), .int a1].toArray ss (b0.1 - p.2.2.1) (b0.2 - p.2.2.2) (hp_A (cd_pic cA ad ca0 σ0) sz)) (F0 mm 70 ls []))) → (∀ r, q = Sum.inl r → r = Sum.inl p) → W pp l ee ({ frames := (d + 1) + 16, cells := b0.1 - p.2.2.1, slots := b0.2 - p.2.2.2, locals := 26 * (d + 1) + 286 }) ss mm [.ref (ad 4 0), .int a1].toArray bb mt cd H locs (b0.1 - b.1) (b0.2 - b.2) (MQ bb (hp_Qv D vwCl (hp_Tl cA) sz (cd_pic cA ad ca0 σ0) (fun u => ∃ ca1, cd_inj ad ca1 ∧ u = cd_pic cA ad ca1 p.2.1)) [.ref (ad 4 0), .int a1].toArray ss (b0.1 - p.2.2.1) (b0.2 - p.2.2.2) (hp_A (cd_pic cA ad ca0 σ0) sz)) (F0 mm 16 ls []) := by
      intro j
      induction j with
      | zero => intro ca hj σ b l1 l2 q H locs ls hb1 hb2 hf1 hf2 hq1 hq2 h; exact nomatch h
      | succ j ih =>
        intro ca hj σ b l1 l2 q H locs ls hb1 hb2 hf1 hf2 hq1 hq2 h hw hl K KR
        unfold f_X4_readRow_L16 at h
        refine lv_iload_n cx.1 cx.2.1 dX4_readRow_16 rfl (lv_at hl 2 rfl) ?_
        refine lv_sipush (v := 3000) cx.1 cx.2.1 dX4_readRow_17 (by decide) ?_
        refine lv_icmp_ge (tgt := 70) cx.1 cx.2.1 dX4_readRow_20 (by decide) (fun c20 => ?_) (fun c20 => ?_)
        · have h := md_ip c20 h
          exact K _ (Option.some.inj h).symm _ hj _ _ _ (by (try dsimp only); omega) (by (try dsimp only); omega) hw (lv_sub hl [0] rfl)
        · have h := md_in c20 h
          refine lv_aload_n cx.1 cx.2.1 dX4_readRow_23 rfl (lv_at hl 0 rfl) ?_
          refine cd_gO (o2 := 10) (e2 := 0) (o := 4) (k := 0) (f := 128) hj cx hw hic4 rfl ⟨by decide, rfl, by decide, rfl⟩ rfl (by decide) ⟨rfl, rfl⟩ (List.mem_cons_of_mem _ cm_658) dX4_readRow_24 ?_
          refine cd_gI (o := 10) (k := 8) (f := 328) hj cx hw hic10 rfl ⟨by decide, rfl, by decide, rfl⟩ rfl (by decide) (List.mem_cons_of_mem _ cm_665) dX4_readRow_27 ?_
          refine lv_bipush (v := 59) cx.1 cx.2.1 dX4_readRow_30 (by decide) ?_
          refine lv_icmp_ne (tgt := 70) cx.1 cx.2.1 dX4_readRow_32 (by decide) (fun c32 => ?_) (fun c32 => ?_)
          · have h := md_in c32 h
            exact K _ (Option.some.inj h).symm _ hj _ _ _ (by (try dsimp only); omega) (by (try dsimp only); omega) hw (lv_sub hl [0] rfl)
          · have h := md_ip c32 h
            refine lv_aload_n cx.1 cx.2.1 dX4_readRow_35 rfl (lv_at hl 0 rfl) ?_
            obtain ⟨q4, e_q4, h⟩ := md_ob h
            obtain ⟨hm5, hn5, h⟩ := cd_cks h
            have hM5 : p.2.2.1 ≤ (Sum.elim (fun (p : Int32 × cd_S × cd_B) => p.2.2) (fun (t : cd_S × cd_B) => t.2) q4).1 ∧ p.2.2.2 ≤ (Sum.elim (fun (p : Int32 × cd_S × cd_B) => p.2.2) (fun (t : cd_S × cd_B) => t.2) q4).2 := ⟨Nat.le_trans hq1 hm5, Nat.le_trans hq2 hn5⟩
            cases q4 with
            | inr t4 =>
              exact nomatch KR _ (Option.some.inj h).symm
            | inl p4 =>
              have hle4 := (kc_X4_part l D cA E sz ad _ hj oq sgq sgv hE n σ b  p4 e_q4).1
              have hM10005 : p.2.2.1 ≤ p4.2.2.1 ∧ p.2.2.2 ≤ p4.2.2.2 := hM5
              have h := cd_inl h
              refine hp_callVv (As := []) (rest := []) cx hw ((kc_X4_part l D cA E _ ad _ hj oq sgq sgv hE n σ b  p4 e_q4).2) (cwV 0 cx.2.2.2.2.2.1 (cd_giV cm_764 cm_765 cm_766 cm_663 cm_767) rfl rfl rfl hdc_X4_part ⟨by (try dsimp only); omega, by (try dsimp only); omega⟩) (cd_atO hj (by decide) (by decide)) rfl rfl hl.1 rfl (Nat.le_of_ble_eq_true rfl) dX4_readRow_36 ⟨by (try dsimp only); omega, by (try dsimp only); omega⟩ (fun u H locs hp hw => ?_)
              obtain ⟨ca, hj, rfl⟩ := hp
              refine W.widen (k := b0.1 - p4.2.2.1) (n := b0.2 - p4.2.2.2) (by omega) (by omega) ?_
              refine lv_aload_n cx.1 cx.2.1 dX4_readRow_39 rfl (lv_at hl 0 rfl) ?_
              obtain ⟨u6, e_u6, h⟩ := md_ob h
              have hb_u6 : u6 < 60 := (cd_dps e_u6).2
              refine cd_gP (o2 := 9) (u := u6) (o := 4) (k := 8) (f := 136) hj cx hw hic4 rfl ⟨by decide, rfl, by decide, rfl⟩ rfl (by decide) rfl e_u6 (List.mem_cons_of_mem _ cm_749) dX4_readRow_40 ?_
              refine lv_bipush (v := 16) cx.1 cx.2.1 dX4_readRow_43 (by decide) ?_
              refine lv_iconst (v := 0) cx.1 cx.2.1 dX4_readRow_45 (by decide) ?_
              refine lv_iconst (v := 0) cx.1 cx.2.1 dX4_readRow_46 (by decide) ?_
              obtain ⟨p7, e_p7, h⟩ := md_ob h
              obtain ⟨hm8, hn8, h⟩ := cd_cks h
              have hM8 : p.2.2.1 ≤ p7.2.2.1 ∧ p.2.2.2 ≤ p7.2.2.2 := ⟨Nat.le_trans hq1 hm8, Nat.le_trans hq2 hn8⟩
              have hle7 := (kc_X9_emit l D cA E sz ad _ hj oq sgq sgv hE n p4.2.1 (p4.2.2) u6 (16 : Int32) (0 : Int32) (0 : Int32) (show _ < 60 by omega) p7 e_p7).1
              refine hp_callVv (As := [.int 16, .int 0, .int 0]) (rest := []) cx hw ((kc_X9_emit l D cA E _ ad _ hj oq sgq sgv hE n p4.2.1 (p4.2.2) u6 (16 : Int32) (0 : Int32) (0 : Int32) (show _ < 60 by omega) p7 e_p7).2) (cwV 3 cx.2.2.2.2.2.1 (cd_giV cm_781 cm_782 cm_783 cm_114 cm_784) rfl rfl rfl hdc_X9_emit ⟨by (try dsimp only); omega, by (try dsimp only); omega⟩) (cd_atO hj (by decide) (show _ < 60 by omega)) rfl rfl hl.1 rfl (Nat.le_of_ble_eq_true rfl) dX4_readRow_47 ⟨by (try dsimp only); omega, by (try dsimp only); omega⟩ (fun u H locs hp hw => ?_)
              obtain ⟨ca, hj, rfl⟩ := hp
              refine W.widen (k := b0.1 - p7.2.2.1) (n := b0.2 - p7.2.2.2) (by omega) (by omega) ?_
              refine lv_aload_n cx.1 cx.2.1 dX4_readRow_50 rfl (lv_at hl 0 rfl) ?_
              refine cd_gO (o2 := 10) (e2 := 0) (o := 4) (k := 0) (f := 128) hj cx hw hic4 rfl ⟨by decide, rfl, by decide, rfl⟩ rfl (by decide) ⟨rfl, rfl⟩ (List.mem_cons_of_mem _ cm_658) dX4_readRow_51 ?_
              obtain ⟨p9, e_p9, h⟩ := md_ob h
              refine hp_callVv (As := []) (rest := []) cx hw (kc_X10_advance l D cA E _ ad _ hj oq sgq sgv hE n p7.2.1  p9 e_p9) (cwV 0 cx.2.2.2.2.2.1 (cd_giV cm_670 cm_671 cm_672 cm_301 cm_673) rfl rfl rfl hdc_X10_advance ⟨by (try dsimp only); omega, by (try dsimp only); omega⟩) (cd_atO hj (by decide) (by decide)) rfl rfl hl.1 rfl (Nat.le_of_ble_eq_true rfl) dX4_readRow_54 ⟨by (try dsimp only); omega, by (try dsimp only); omega⟩ (fun u H locs hp hw => ?_)
              obtain ⟨ca, hj, rfl⟩ := hp
              refine lv_aload_n cx.1 cx.2.1 dX4_readRow_57 rfl (lv_at hl 0 rfl) ?_
              refine lv_iload_n cx.1 cx.2.1 dX4_readRow_58 rfl (lv_at hl 1 rfl) ?_
              refine lv_iconst (v := 1) cx.1 cx.2.1 dX4_readRow_59 (by decide) ?_
              refine lv_iadd cx.1 cx.2.1 dX4_readRow_60 ?_
              obtain ⟨q10, e_q10, h⟩ := md_ob h
              obtain ⟨hm11, hn11, h⟩ := cd_cks h
              have hM11 : p.2.2.1 ≤ (Sum.elim (fun (p : Int32 × cd_S × cd_B) => p.2.2) (fun (t : cd_S × cd_B) => t.2) q10).1 ∧ p.2.2.2 ≤ (Sum.elim (fun (p : Int32 × cd_S × cd_B) => p.2.2) (fun (t : cd_S × cd_B) => t.2) q10).2 := ⟨Nat.le_trans hq1 hm11, Nat.le_trans hq2 hn11⟩
              cases q10 with
              | inr t10 =>
                exact nomatch KR _ (Option.some.inj h).symm
              | inl p10 =>
                have hle10 := (in0 sz _ hj p9.2 (p7.2.2) ((l1 + 1)) p10 e_q10).1
                have hM10011 : p.2.2.1 ≤ p10.2.2.1 ∧ p.2.2.2 ≤ p10.2.2.2 := hM11
                have h := cd_inl h
                refine hp_callVv (As := [.int (l1 + 1)]) (rest := []) cx hw ((in0 _ _ hj p9.2 (p7.2.2) ((l1 + 1)) p10 e_q10).2) (cwV 1 cx.2.2.2.2.2.1 (cd_giV cm_760 cm_761 cm_762 cm_663 cm_763) rfl rfl rfl hdc_X4_readExpression ⟨by (try dsimp only); omega, by (try dsimp only); omega⟩) (cd_atO hj (by decide) (by decide)) rfl rfl hl.1 rfl (Nat.le_of_ble_eq_true rfl) dX4_readRow_61 ⟨by (try dsimp only); omega, by (try dsimp only); omega⟩ (fun u H locs hp hw => ?_)
                obtain ⟨ca, hj, rfl⟩ := hp
                refine W.widen (k := b0.1 - p10.2.2.1) (n := b0.2 - p10.2.2.2) (by omega) (by omega) ?_
                refine lv_iinc (v := (l2 + 1)) (lv' := [(2, .int (l2 + 1)), (0, .ref (ad 4 0)), (1, .int l1)]) cx.1 cx.2.1 dX4_readRow_64 hl (k := 2) rfl rfl (by decide) rfl (fun ls hl => ?_)
                refine lv_goto (tgt := 16) cx.1 cx.2.1 dX4_readRow_67 (by decide) ?_
                exact ih _ hj p10.2.1 (p10.2.2) l1 ((l2 + 1)) q _ _ _ (by omega) (by omega) (by omega) (by omega) hq1 hq2 h hw (lv_sub hl [1, 2, 0] rfl) K KR
    obtain ⟨q12, e_q12, h⟩ := md_ob h
    obtain ⟨hm13, hn13, h⟩ := cd_cks h
    have hM13 : p.2.2.1 ≤ (Sum.elim (fun (q : ((Int32 × cd_S × cd_B) ⊕ (cd_S × cd_B))) => Sum.elim (fun (p : (Int32 × cd_S × cd_B)) => p.2.2) (fun (t : cd_S × cd_B) => t.2) q) (fun (q : cd_S × cd_B × Int32) => q.2.1) q12).1 ∧ p.2.2.2 ≤ (Sum.elim (fun (q : ((Int32 × cd_S × cd_B) ⊕ (cd_S × cd_B))) => Sum.elim (fun (p : (Int32 × cd_S × cd_B)) => p.2.2) (fun (t : cd_S × cd_B) => t.2) q) (fun (q : cd_S × cd_B × Int32) => q.2.1) q12).2 := ⟨hm13, hn13⟩
    refine L16 n _ hj p2.2.1 (p2.2.2) a1 0 q12 _ _ _ (by omega) (by omega) (by omega) (by omega) hM13.1 hM13.2 e_q12 hw (lv_sub hl [1, 2, 0] rfl) (fun t12 hq12 ca hj H locs ls hb1 hb2 hw hl => ?_) (fun r hr => by subst hr; exact Option.some.inj h)
    subst hq12
    have h := md_inr h
    have hS13 : p.2.2.1 ≤ t12.2.1.1 ∧ p.2.2.2 ≤ t12.2.1.2 := hM13
    refine lv_aload_n cx.1 cx.2.1 dX4_readRow_70 rfl (lv_at hl 0 rfl) ?_
    refine lv_bipush (v := 125) cx.1 cx.2.1 dX4_readRow_71 (by decide) ?_
    obtain ⟨q14, e_q14, h⟩ := md_ob h
    obtain ⟨hm15, hn15, h⟩ := cd_cks h
    have hM15 : p.2.2.1 ≤ (Sum.elim (fun (p : Int32 × cd_S × cd_B) => p.2.2) (fun (t : cd_S × cd_B) => t.2) q14).1 ∧ p.2.2.2 ≤ (Sum.elim (fun (p : Int32 × cd_S × cd_B) => p.2.2) (fun (t : cd_S × cd_B) => t.2) q14).2 := ⟨hm15, hn15⟩
    cases q14 with
    | inr t14 =>
      exact nomatch Option.some.inj h
    | inl p14 =>
      have hle14 := (kc_X4_pass l D cA E sz ad _ hj oq sgq sgv hE n t12.1 (t12.2.1) (125 : Int32) p14 e_q14).1
      have hM10015 : p.2.2.1 ≤ p14.2.2.1 ∧ p.2.2.2 ≤ p14.2.2.2 := hM15
      have h := cd_inl h
      refine hp_callVv (As := [.int 125]) (rest := []) cx hw ((kc_X4_pass l D cA E _ ad _ hj oq sgq sgv hE n t12.1 (t12.2.1) (125 : Int32) p14 e_q14).2) (cwV 1 cx.2.2.2.2.2.1 (cd_giV cm_714 cm_715 cm_716 cm_663 cm_717) rfl rfl rfl hdc_X4_pass ⟨by (try dsimp only); omega, by (try dsimp only); omega⟩) (cd_atO hj (by decide) (by decide)) rfl rfl hl.1 rfl (Nat.le_of_ble_eq_true rfl) dX4_readRow_73 ⟨by (try dsimp only); omega, by (try dsimp only); omega⟩ (fun u H locs hp hw => ?_)
      obtain ⟨ca, hj, rfl⟩ := hp
      refine W.widen (k := b0.1 - p14.2.2.1) (n := b0.2 - p14.2.2.2) (by omega) (by omega) ?_
      exact hp_vret cx hw ((cd_retb hj (congrArg some (Sum.inl.inj (Option.some.inj h)))).2) dX4_readRow_76 (cd_le1 (congrArg some (Sum.inl.inj (Option.some.inj h)))) (cd_le2 (congrArg some (Sum.inl.inj (Option.some.inj h))))
set_option maxHeartbeats 4000000 in
set_option maxRecDepth 100000 in
theorem kc_X4_readFun (l : Launch) (D : va_G) (cA : Nat → ClassId) (E : hp_N) (sz : Nat) (ad : Nat → Nat → Nat) (ca0 : Nat → Nat) (hj : cd_inj ad ca0) (oq sgq sgv : Nat) (hE : cd_E E oq sgq sgv) (n d : Nat) (rec : cd_R) (in18 : ∀ (sz : Nat) (ca : Nat → Nat) (_ : cd_inj ad ca) (σ : cd_S) (b : cd_B) (a1 : Int32) (p : Int32 × cd_S × cd_B), rec 18 0 a1 0 σ b = some (Sum.inl p) → (p.2.2.1 ≤ b.1 ∧ p.2.2.2 ≤ b.2) ∧ Met l yX4_readRow (Cond.code yX4_readRow cX4_readRow 3 none :: v_CLS) ({ frames := d + 16, cells := b.1 - p.2.2.1, slots := b.2 - p.2.2.2, locals := 26 * d + 286 }) (hp_Pc D vwCl (hp_Tl cA) E sz (cd_pic cA ad ca σ) [.ref (ad 4 0), .int a1]) (hp_Qv D vwCl (hp_Tl cA) sz (cd_pic cA ad ca σ) (fun u => ∃ ca1, cd_inj ad ca1 ∧ u = cd_pic cA ad ca1 p.2.1)) (b.1 - p.2.2.1) (b.2 - p.2.2.2) (hp_A (cd_pic cA ad ca σ) sz)) (σ0 : cd_S) (b0 : cd_B) (a1 : Int32) (p : (Int32 × cd_S × cd_B)) (h : f_X4_readFun n rec σ0 b0 a1 = some (Sum.inl p)) : (p.2.2.1 ≤ b0.1 ∧ p.2.2.2 ≤ b0.2) ∧ Met l yX4_readFun (Cond.code yX4_readFun cX4_readFun 4 none :: v_CLS) ({ frames := (d + 1) + 16, cells := b0.1 - p.2.2.1, slots := b0.2 - p.2.2.2, locals := 26 * (d + 1) + 286 }) (hp_Pc D vwCl (hp_Tl cA) E sz (cd_pic cA ad ca0 σ0) [.ref (ad 4 0), .int a1]) (hp_Qv D vwCl (hp_Tl cA) sz (cd_pic cA ad ca0 σ0) (fun u => ∃ ca1, cd_inj ad ca1 ∧ u = cd_pic cA ad ca1 p.2.1)) (b0.1 - p.2.2.1) (b0.2 - p.2.2.2) (hp_A (cd_pic cA ad ca0 σ0) sz) := by
  obtain ⟨hm0, hn0, h⟩ := cd_cks h
  have hM0 : p.2.2.1 ≤ b0.1 ∧ p.2.2.2 ≤ b0.2 := ⟨hm0, hn0⟩
  refine ⟨hM0, ?_⟩
  refine hp_ofW (cc := cX4_readFun) (maxL := 4) (ret := none) (by decide) rfl (Nat.le_of_ble_eq_true rfl) ?_
  intro pp ee ss mm bb mt cd ls cx hsz hw hl
  have hl : lv_has ls 4 [(0, .ref (ad 4 0)), (1, .int a1)] := hl
  refine W.widen (k := b0.1 - b0.1) (n := b0.2 - b0.2) (Nat.zero_le _) (Nat.zero_le _) ?_
  have J61 : ∀ (ca : Nat → Nat) (hj : cd_inj ad ca) (σ : cd_S) (b : cd_B) (l1 : Int32) (l2 : Int32) (l3 : Nat) (t0 : Int32) (H : Heap) (locs : List Loc) (ls : Array Slot), l3 < 60 → b.1 ≤ b0.1 → b.2 ≤ b0.2 → p.2.2.1 ≤ b.1 → p.2.2.2 ≤ b.2 → f_X4_readFun_J61 n rec σ b l1 l2 l3 t0 = some (Sum.inl p) → hp_w D vwCl (hp_Tl cA) E (hp_A (cd_pic cA ad ca0 σ0) sz) ss H locs (cd_pic cA ad ca σ) → lv_has ls 4 [(0, .ref (ad 4 0)), (1, .int l1), (2, .int l2), (3, .ref (ad 9 l3))] → W pp l ee ({ frames := (d + 1) + 16, cells := b0.1 - p.2.2.1, slots := b0.2 - p.2.2.2, locals := 26 * (d + 1) + 286 }) ss mm [.ref (ad 4 0), .int a1].toArray bb mt cd H locs (b0.1 - b.1) (b0.2 - b.2) (MQ bb (hp_Qv D vwCl (hp_Tl cA) sz (cd_pic cA ad ca0 σ0) (fun u => ∃ ca1, cd_inj ad ca1 ∧ u = cd_pic cA ad ca1 p.2.1)) [.ref (ad 4 0), .int a1].toArray ss (b0.1 - p.2.2.1) (b0.2 - p.2.2.2) (hp_A (cd_pic cA ad ca0 σ0) sz)) (F0 mm 61 ls [.int t0, .ref (ad 4 0)]) := by
    intro ca hj σ b l1 l2 l3 t0 H locs ls hb_l3 hb1 hb2 hf1 hf2 h hw hl
    obtain ⟨q1, e_q1, h⟩ := md_ob h
    obtain ⟨hm2, hn2, h⟩ := cd_cks h
    have hM2 : p.2.2.1 ≤ (Sum.elim (fun (p : Int32 × cd_S × cd_B) => p.2.2) (fun (t : cd_S × cd_B) => t.2) q1).1 ∧ p.2.2.2 ≤ (Sum.elim (fun (p : Int32 × cd_S × cd_B) => p.2.2) (fun (t : cd_S × cd_B) => t.2) q1).2 := ⟨hm2, hn2⟩
    cases q1 with
    | inr t1 =>
      exact nomatch Option.some.inj h
    | inl p1 =>
      have hle1 := (kc_X4_need l D cA E sz ad _ hj oq sgq sgv hE n σ b t0 p1 e_q1).1
      have hM10002 : p.2.2.1 ≤ p1.2.2.1 ∧ p.2.2.2 ≤ p1.2.2.2 := hM2
      have h := cd_inl h
      refine hp_callVv (As := [.int t0]) (rest := []) cx hw ((kc_X4_need l D cA E _ ad _ hj oq sgq sgv hE n σ b t0 p1 e_q1).2) (cwV 1 cx.2.2.2.2.2.1 (cd_giV cm_666 cm_667 cm_668 cm_663 cm_669) rfl rfl rfl hdc_X4_need ⟨by (try dsimp only); omega, by (try dsimp only); omega⟩) (cd_atO hj (by decide) (by decide)) rfl rfl hl.1 rfl (Nat.le_of_ble_eq_true rfl) dX4_readFun_61 ⟨by (try dsimp only); omega, by (try dsimp only); omega⟩ (fun u H locs hp hw => ?_)
      obtain ⟨ca, hj, rfl⟩ := hp
      refine W.widen (k := b0.1 - p1.2.2.1) (n := b0.2 - p1.2.2.2) (by omega) (by omega) ?_
      refine lv_aload_n cx.1 cx.2.1 dX4_readFun_64 rfl (lv_at hl 0 rfl) ?_
      refine lv_iload_n cx.1 cx.2.1 dX4_readFun_65 rfl (lv_at hl 1 rfl) ?_
      obtain ⟨q3, e_q3, h⟩ := md_ob h
      obtain ⟨hm4, hn4, h⟩ := cd_cks h
      have hM4 : p.2.2.1 ≤ (Sum.elim (fun (p : Int32 × cd_S × cd_B) => p.2.2) (fun (t : cd_S × cd_B) => t.2) q3).1 ∧ p.2.2.2 ≤ (Sum.elim (fun (p : Int32 × cd_S × cd_B) => p.2.2) (fun (t : cd_S × cd_B) => t.2) q3).2 := ⟨hm4, hn4⟩
      cases q3 with
      | inr t3 =>
        exact nomatch Option.some.inj h
      | inl p3 =>
        have hle3 := (in18 sz _ hj p1.2.1 (p1.2.2) l1 p3 e_q3).1
        have hM10004 : p.2.2.1 ≤ p3.2.2.1 ∧ p.2.2.2 ≤ p3.2.2.2 := hM4
        have h := cd_inl h
        refine hp_callVv (As := [.int l1]) (rest := []) cx hw ((in18 _ _ hj p1.2.1 (p1.2.2) l1 p3 e_q3).2) (cwV 1 cx.2.2.2.2.2.1 (cd_giV cm_815 cm_816 cm_817 cm_663 cm_818) rfl rfl rfl hdc_X4_readRow ⟨by (try dsimp only); omega, by (try dsimp only); omega⟩) (cd_atO hj (by decide) (by decide)) rfl rfl hl.1 rfl (Nat.le_of_ble_eq_true rfl) dX4_readFun_66 ⟨by (try dsimp only); omega, by (try dsimp only); omega⟩ (fun u H locs hp hw => ?_)
        obtain ⟨ca, hj, rfl⟩ := hp
        refine W.widen (k := b0.1 - p3.2.2.1) (n := b0.2 - p3.2.2.2) (by omega) (by omega) ?_
        refine lv_aload_n cx.1 cx.2.1 dX4_readFun_69 rfl (lv_at hl 0 rfl) ?_
        refine lv_iload_n cx.1 cx.2.1 dX4_readFun_70 rfl (lv_at hl 2 rfl) ?_
        obtain ⟨σ5, e_σ5, h⟩ := md_ob h
        refine cd_pI (o := 4) (k := 6) (f := 134) hj cx hw hic4 rfl ⟨by decide, rfl, by decide, rfl⟩ tyX4_ok nmX4 rfl (by decide) rfl (List.mem_cons_of_mem _ cm_728) rfl e_σ5 dX4_readFun_71 (fun H locs hw => ?_)
        refine lv_aload_n cx.1 cx.2.1 dX4_readFun_74 rfl (lv_at hl 0 rfl) ?_
        refine lv_aload_n cx.1 cx.2.1 dX4_readFun_75 rfl (lv_at hl 3 rfl) ?_
        refine lv_bipush (v := 9) cx.1 cx.2.1 dX4_readFun_76 (by decide) ?_
        obtain ⟨p6, e_p6, h⟩ := md_ob h
        obtain ⟨hm7, hn7, h⟩ := cd_cks h
        have hM7 : p.2.2.1 ≤ p6.2.2.1 ∧ p.2.2.2 ≤ p6.2.2.2 := ⟨hm7, hn7⟩
        have hle6 := (kc_X4_closeInner l D cA E sz ad _ hj oq sgq sgv hE n σ5 (p3.2.2) l3 (9 : Int32) (show _ < 60 by omega) p6 e_p6).1
        refine hp_callVv (As := [.ref (ad 9 l3), .int 9]) (rest := []) cx hw ((kc_X4_closeInner l D cA E _ ad _ hj oq sgq sgv hE n σ5 (p3.2.2) l3 (9 : Int32) (show _ < 60 by omega) p6 e_p6).2) (cwV 2 cx.2.2.2.2.2.1 (cd_giV cm_819 cm_820 cm_821 cm_663 cm_822) rfl rfl rfl hdc_X4_closeInner ⟨by (try dsimp only); omega, by (try dsimp only); omega⟩) (cd_atO hj (by decide) (by decide)) rfl rfl hl.1 rfl (Nat.le_of_ble_eq_true rfl) dX4_readFun_78 ⟨by (try dsimp only); omega, by (try dsimp only); omega⟩ (fun u H locs hp hw => ?_)
        obtain ⟨ca, hj, rfl⟩ := hp
        refine W.widen (k := b0.1 - p6.2.2.1) (n := b0.2 - p6.2.2.2) (by omega) (by omega) ?_
        exact hp_vret cx hw ((cd_retb hj (congrArg some (Sum.inl.inj (Option.some.inj h)))).2) dX4_readFun_81 (cd_le1 (congrArg some (Sum.inl.inj (Option.some.inj h)))) (cd_le2 (congrArg some (Sum.inl.inj (Option.some.inj h))))
  refine lv_aload_n cx.1 cx.2.1 dX4_readFun_0 rfl (lv_at hl 0 rfl) ?_
  obtain ⟨q8, e_q8, h⟩ := md_ob h
  obtain ⟨hm9, hn9, h⟩ := cd_cks h
  have hM9 : p.2.2.1 ≤ (Sum.elim (fun (p : Int32 × cd_S × cd_B) => p.2.2) (fun (t : cd_S × cd_B) => t.2) q8).1 ∧ p.2.2.2 ≤ (Sum.elim (fun (p : Int32 × cd_S × cd_B) => p.2.2) (fun (t : cd_S × cd_B) => t.2) q8).2 := ⟨hm9, hn9⟩
  cases q8 with
  | inr t8 =>
    exact nomatch Option.some.inj h
  | inl p8 =>
    have hle8 := (kc_X4_part l D cA E sz ad _ hj oq sgq sgv hE n σ0 b0  p8 e_q8).1
    have hM10009 : p.2.2.1 ≤ p8.2.2.1 ∧ p.2.2.2 ≤ p8.2.2.2 := hM9
    have h := cd_inl h
    refine hp_callVv (As := []) (rest := []) cx hw ((kc_X4_part l D cA E _ ad _ hj oq sgq sgv hE n σ0 b0  p8 e_q8).2) (cwV 0 cx.2.2.2.2.2.1 (cd_giV cm_764 cm_765 cm_766 cm_663 cm_767) rfl rfl rfl hdc_X4_part ⟨by (try dsimp only); omega, by (try dsimp only); omega⟩) (cd_atO hj (by decide) (by decide)) rfl rfl hl.1 rfl (Nat.le_of_ble_eq_true rfl) dX4_readFun_1 ⟨by (try dsimp only); omega, by (try dsimp only); omega⟩ (fun u H locs hp hw => ?_)
    obtain ⟨ca, hj, rfl⟩ := hp
    refine W.widen (k := b0.1 - p8.2.2.1) (n := b0.2 - p8.2.2.2) (by omega) (by omega) ?_
    refine lv_aload_n cx.1 cx.2.1 dX4_readFun_4 rfl (lv_at hl 0 rfl) ?_
    refine cd_gI (o := 4) (k := 6) (f := 134) hj cx hw hic4 rfl ⟨by decide, rfl, by decide, rfl⟩ rfl (by decide) (List.mem_cons_of_mem _ cm_728) dX4_readFun_5 ?_
    refine lv_istore_n (lv' := [(2, .int (cI p8.2.1 134 0)), (0, .ref (ad 4 0)), (1, .int a1)]) cx.1 cx.2.1 dX4_readFun_8 rfl hl (by decide) rfl (fun ls hl => ?_)
    refine lv_aload_n cx.1 cx.2.1 dX4_readFun_9 rfl (lv_at hl 1 rfl) ?_
    refine lv_iconst (v := 1) cx.1 cx.2.1 dX4_readFun_10 (by decide) ?_
    obtain ⟨q10, e_q10, h⟩ := md_ob h
    obtain ⟨hm11, hn11, h⟩ := cd_cks h
    have hM11 : p.2.2.1 ≤ (Sum.elim (fun (p : Nat × cd_S × cd_B) => p.2.2) (fun (t : cd_S × cd_B) => t.2) q10).1 ∧ p.2.2.2 ≤ (Sum.elim (fun (p : Nat × cd_S × cd_B) => p.2.2) (fun (t : cd_S × cd_B) => t.2) q10).2 := ⟨hm11, hn11⟩
    cases q10 with
    | inr t10 =>
      exact nomatch Option.some.inj h
    | inl p10 =>
      have hle10 := (kc_X4_openUnit l D cA E sz ad _ hj oq sgq sgv hE n p8.2.1 (p8.2.2) (1 : Int32) p10 e_q10).1
      have hM10011 : p.2.2.1 ≤ p10.2.2.1 ∧ p.2.2.2 ≤ p10.2.2.2 := hM11
      have h := cd_inl h
      refine hp_callVr (As := [.int 1]) (rest := []) cx hw ((kc_X4_openUnit l D cA E _ ad _ hj oq sgq sgv hE n p8.2.1 (p8.2.2) (1 : Int32) p10 e_q10).2) (cwV 1 cx.2.2.2.2.2.1 (cd_giV cm_807 cm_808 cm_809 cm_663 cm_810) rfl rfl rfl hdc_X4_openUnit ⟨by (try dsimp only); omega, by (try dsimp only); omega⟩) (cd_atO hj (by decide) (by decide)) rfl rfl hl.1 rfl (Nat.le_of_ble_eq_true rfl) dX4_readFun_11 ⟨by (try dsimp only); omega, by (try dsimp only); omega⟩ (fun r u H locs hp hw => ?_)
      obtain ⟨⟨hb_p10, rfl⟩, ca, hj, rfl⟩ := hp
      refine W.widen (k := b0.1 - p10.2.2.1) (n := b0.2 - p10.2.2.2) (by omega) (by omega) ?_
      refine lv_astore_n (lv' := [(3, .ref (ad 9 p10.1)), (2, .int (cI p8.2.1 134 0)), (0, .ref (ad 4 0)), (1, .int a1)]) cx.1 cx.2.1 dX4_readFun_14 rfl hl (by decide) rfl (fun ls hl => ?_)
      refine lv_aload_n cx.1 cx.2.1 dX4_readFun_15 rfl (lv_at hl 2 rfl) ?_
      refine lv_aload_n cx.1 cx.2.1 dX4_readFun_16 rfl (lv_at hl 0 rfl) ?_
      obtain ⟨σ12, e_σ12, h⟩ := md_ob h
      refine cd_pP (u := p10.1) (o2 := 9) (o := 4) (k := 8) (f := 136) hj cx hw hic4 rfl ⟨by decide, rfl, by decide, rfl⟩ tyX4_ok nmX4 rfl (by decide) rfl (List.mem_cons_of_mem _ cm_749) rfl rfl e_σ12 dX4_readFun_17 (fun H locs hw => ?_)
      refine lv_aload_n cx.1 cx.2.1 dX4_readFun_20 rfl (lv_at hl 2 rfl) ?_
      refine cd_gO (o2 := 10) (e2 := 0) (o := 4) (k := 0) (f := 128) hj cx hw hic4 rfl ⟨by decide, rfl, by decide, rfl⟩ rfl (by decide) ⟨rfl, rfl⟩ (List.mem_cons_of_mem _ cm_658) dX4_readFun_21 ?_
      obtain ⟨p13, e_p13, h⟩ := md_ob h
      refine hp_callVv (As := []) (rest := []) cx hw (kc_X10_advance l D cA E _ ad _ hj oq sgq sgv hE n σ12  p13 e_p13) (cwV 0 cx.2.2.2.2.2.1 (cd_giV cm_670 cm_671 cm_672 cm_301 cm_673) rfl rfl rfl hdc_X10_advance ⟨by (try dsimp only); omega, by (try dsimp only); omega⟩) (cd_atO hj (by decide) (by decide)) rfl rfl hl.1 rfl (Nat.le_of_ble_eq_true rfl) dX4_readFun_24 ⟨by (try dsimp only); omega, by (try dsimp only); omega⟩ (fun u H locs hp hw => ?_)
      obtain ⟨ca, hj, rfl⟩ := hp
      refine lv_aload_n cx.1 cx.2.1 dX4_readFun_27 rfl (lv_at hl 2 rfl) ?_
      refine lv_bipush (v := 40) cx.1 cx.2.1 dX4_readFun_28 (by decide) ?_
      obtain ⟨q14, e_q14, h⟩ := md_ob h
      obtain ⟨hm15, hn15, h⟩ := cd_cks h
      have hM15 : p.2.2.1 ≤ (Sum.elim (fun (p : Int32 × cd_S × cd_B) => p.2.2) (fun (t : cd_S × cd_B) => t.2) q14).1 ∧ p.2.2.2 ≤ (Sum.elim (fun (p : Int32 × cd_S × cd_B) => p.2.2) (fun (t : cd_S × cd_B) => t.2) q14).2 := ⟨hm15, hn15⟩
      cases q14 with
      | inr t14 =>
        exact nomatch Option.some.inj h
      | inl p14 =>
        have hle14 := (kc_X4_pass l D cA E sz ad _ hj oq sgq sgv hE n p13.2 (p10.2.2) (40 : Int32) p14 e_q14).1
        have hM10015 : p.2.2.1 ≤ p14.2.2.1 ∧ p.2.2.2 ≤ p14.2.2.2 := hM15
        have h := cd_inl h
        refine hp_callVv (As := [.int 40]) (rest := []) cx hw ((kc_X4_pass l D cA E _ ad _ hj oq sgq sgv hE n p13.2 (p10.2.2) (40 : Int32) p14 e_q14).2) (cwV 1 cx.2.2.2.2.2.1 (cd_giV cm_714 cm_715 cm_716 cm_663 cm_717) rfl rfl rfl hdc_X4_pass ⟨by (try dsimp only); omega, by (try dsimp only); omega⟩) (cd_atO hj (by decide) (by decide)) rfl rfl hl.1 rfl (Nat.le_of_ble_eq_true rfl) dX4_readFun_30 ⟨by (try dsimp only); omega, by (try dsimp only); omega⟩ (fun u H locs hp hw => ?_)
        obtain ⟨ca, hj, rfl⟩ := hp
        refine W.widen (k := b0.1 - p14.2.2.1) (n := b0.2 - p14.2.2.2) (by omega) (by omega) ?_
        refine lv_aload_n cx.1 cx.2.1 dX4_readFun_33 rfl (lv_at hl 2 rfl) ?_
        obtain ⟨q16, e_q16, h⟩ := md_ob h
        obtain ⟨hm17, hn17, h⟩ := cd_cks h
        have hM17 : p.2.2.1 ≤ (Sum.elim (fun (p : Int32 × cd_S × cd_B) => p.2.2) (fun (t : cd_S × cd_B) => t.2) q16).1 ∧ p.2.2.2 ≤ (Sum.elim (fun (p : Int32 × cd_S × cd_B) => p.2.2) (fun (t : cd_S × cd_B) => t.2) q16).2 := ⟨hm17, hn17⟩
        cases q16 with
        | inr t16 =>
          exact nomatch Option.some.inj h
        | inl p16 =>
          have hle16 := (kc_X4_readParameters l D cA E sz ad _ hj oq sgq sgv hE n p14.2.1 (p14.2.2)  p16 e_q16).1
          have hM10017 : p.2.2.1 ≤ p16.2.2.1 ∧ p.2.2.2 ≤ p16.2.2.2 := hM17
          have h := cd_inl h
          refine hp_callVv (As := []) (rest := []) cx hw ((kc_X4_readParameters l D cA E _ ad _ hj oq sgq sgv hE n p14.2.1 (p14.2.2)  p16 e_q16).2) (cwV 0 cx.2.2.2.2.2.1 (cd_giV cm_811 cm_812 cm_813 cm_663 cm_814) rfl rfl rfl hdc_X4_readParameters ⟨by (try dsimp only); omega, by (try dsimp only); omega⟩) (cd_atO hj (by decide) (by decide)) rfl rfl hl.1 rfl (Nat.le_of_ble_eq_true rfl) dX4_readFun_34 ⟨by (try dsimp only); omega, by (try dsimp only); omega⟩ (fun u H locs hp hw => ?_)
          obtain ⟨ca, hj, rfl⟩ := hp
          refine W.widen (k := b0.1 - p16.2.2.1) (n := b0.2 - p16.2.2.2) (by omega) (by omega) ?_
          refine lv_aload_n cx.1 cx.2.1 dX4_readFun_37 rfl (lv_at hl 2 rfl) ?_
          refine lv_bipush (v := 41) cx.1 cx.2.1 dX4_readFun_38 (by decide) ?_
          obtain ⟨q18, e_q18, h⟩ := md_ob h
          obtain ⟨hm19, hn19, h⟩ := cd_cks h
          have hM19 : p.2.2.1 ≤ (Sum.elim (fun (p : Int32 × cd_S × cd_B) => p.2.2) (fun (t : cd_S × cd_B) => t.2) q18).1 ∧ p.2.2.2 ≤ (Sum.elim (fun (p : Int32 × cd_S × cd_B) => p.2.2) (fun (t : cd_S × cd_B) => t.2) q18).2 := ⟨hm19, hn19⟩
          cases q18 with
          | inr t18 =>
            exact nomatch Option.some.inj h
          | inl p18 =>
            have hle18 := (kc_X4_pass l D cA E sz ad _ hj oq sgq sgv hE n p16.2.1 (p16.2.2) (41 : Int32) p18 e_q18).1
            have hM10019 : p.2.2.1 ≤ p18.2.2.1 ∧ p.2.2.2 ≤ p18.2.2.2 := hM19
            have h := cd_inl h
            refine hp_callVv (As := [.int 41]) (rest := []) cx hw ((kc_X4_pass l D cA E _ ad _ hj oq sgq sgv hE n p16.2.1 (p16.2.2) (41 : Int32) p18 e_q18).2) (cwV 1 cx.2.2.2.2.2.1 (cd_giV cm_714 cm_715 cm_716 cm_663 cm_717) rfl rfl rfl hdc_X4_pass ⟨by (try dsimp only); omega, by (try dsimp only); omega⟩) (cd_atO hj (by decide) (by decide)) rfl rfl hl.1 rfl (Nat.le_of_ble_eq_true rfl) dX4_readFun_40 ⟨by (try dsimp only); omega, by (try dsimp only); omega⟩ (fun u H locs hp hw => ?_)
            obtain ⟨ca, hj, rfl⟩ := hp
            refine W.widen (k := b0.1 - p18.2.2.1) (n := b0.2 - p18.2.2.2) (by omega) (by omega) ?_
            refine lv_aload_n cx.1 cx.2.1 dX4_readFun_43 rfl (lv_at hl 2 rfl) ?_
            refine lv_aload_n cx.1 cx.2.1 dX4_readFun_44 rfl (lv_at hl 2 rfl) ?_
            refine cd_gO (o2 := 10) (e2 := 0) (o := 4) (k := 0) (f := 128) hj cx hw hic4 rfl ⟨by decide, rfl, by decide, rfl⟩ rfl (by decide) ⟨rfl, rfl⟩ (List.mem_cons_of_mem _ cm_658) dX4_readFun_45 ?_
            refine cd_gI (o := 10) (k := 8) (f := 328) hj cx hw hic10 rfl ⟨by decide, rfl, by decide, rfl⟩ rfl (by decide) (List.mem_cons_of_mem _ cm_665) dX4_readFun_48 ?_
            refine lv_bipush (v := 123) cx.1 cx.2.1 dX4_readFun_51 (by decide) ?_
            refine lv_icmp_ne (tgt := 60) cx.1 cx.2.1 dX4_readFun_53 (by decide) (fun c53 => ?_) (fun c53 => ?_)
            · have h := md_in c53 h
              refine lv_iconst (v := 0) cx.1 cx.2.1 dX4_readFun_60 (by decide) ?_
              exact J61 _ hj p18.2.1 (p18.2.2) a1 ((cI p8.2.1 134 0)) (p10.1) 0 _ _ _ (by omega) (by omega) (by omega) (by omega) (by omega) h hw (lv_sub hl [2, 3, 1, 0] rfl)
            · have h := md_ip c53 h
              refine lv_iconst (v := 1) cx.1 cx.2.1 dX4_readFun_56 (by decide) ?_
              refine lv_goto (tgt := 61) cx.1 cx.2.1 dX4_readFun_57 (by decide) ?_
              exact J61 _ hj p18.2.1 (p18.2.2) a1 ((cI p8.2.1 134 0)) (p10.1) 1 _ _ _ (by omega) (by omega) (by omega) (by omega) (by omega) h hw (lv_sub hl [2, 3, 1, 0] rfl)
set_option maxHeartbeats 4000000 in
set_option maxRecDepth 100000 in
theorem kc_X4_readNew (l : Launch) (D : va_G) (cA : Nat → ClassId) (E : hp_N) (sz : Nat) (ad : Nat → Nat → Nat) (ca0 : Nat → Nat) (hj : cd_inj ad ca0) (oq sgq sgv : Nat) (hE : cd_E E oq sgq sgv) (n : Nat) (σ0 : cd_S) (b0 : cd_B) (p : (Int32 × cd_S × cd_B)) (h : f_X4_readNew n σ0 b0 = some (Sum.inl p)) : (p.2.2.1 ≤ b0.1 ∧ p.2.2.2 ≤ b0.2) ∧ Met l yX4_readNew (Cond.code yX4_readNew cX4_readNew 2 none :: v_CLS) ({ frames := 15, cells := b0.1 - p.2.2.1, slots := b0.2 - p.2.2.2, locals := 263 }) (hp_Pc D vwCl (hp_Tl cA) E sz (cd_pic cA ad ca0 σ0) [.ref (ad 4 0)]) (hp_Qv D vwCl (hp_Tl cA) sz (cd_pic cA ad ca0 σ0) (fun u => ∃ ca1, cd_inj ad ca1 ∧ u = cd_pic cA ad ca1 p.2.1)) (b0.1 - p.2.2.1) (b0.2 - p.2.2.2) (hp_A (cd_pic cA ad ca0 σ0) sz) := by
  obtain ⟨hm0, hn0, h⟩ := cd_cks h
  have hM0 : p.2.2.1 ≤ b0.1 ∧ p.2.2.2 ≤ b0.2 := ⟨hm0, hn0⟩
  refine ⟨hM0, ?_⟩
  refine hp_ofW (cc := cX4_readNew) (maxL := 2) (ret := none) (by decide) rfl (Nat.le_of_ble_eq_true rfl) ?_
  intro pp ee ss mm bb mt cd ls cx hsz hw hl
  have hl : lv_has ls 2 [(0, .ref (ad 4 0))] := hl
  refine W.widen (k := b0.1 - b0.1) (n := b0.2 - b0.2) (Nat.zero_le _) (Nat.zero_le _) ?_
  have J47 : ∀ (ca : Nat → Nat) (hj : cd_inj ad ca) (σ : cd_S) (b : cd_B) (l1 : Int32) (H : Heap) (locs : List Loc) (ls : Array Slot), b.1 ≤ b0.1 → b.2 ≤ b0.2 → p.2.2.1 ≤ b.1 → p.2.2.2 ≤ b.2 → f_X4_readNew_J47 n σ b l1 = some (Sum.inl p) → hp_w D vwCl (hp_Tl cA) E (hp_A (cd_pic cA ad ca0 σ0) sz) ss H locs (cd_pic cA ad ca σ) → lv_has ls 2 [(0, .ref (ad 4 0)), (1, .int l1)] → W pp l ee ({ frames := 15, cells := b0.1 - p.2.2.1, slots := b0.2 - p.2.2.2, locals := 263 }) ss mm [.ref (ad 4 0)].toArray bb mt cd H locs (b0.1 - b.1) (b0.2 - b.2) (MQ bb (hp_Qv D vwCl (hp_Tl cA) sz (cd_pic cA ad ca0 σ0) (fun u => ∃ ca1, cd_inj ad ca1 ∧ u = cd_pic cA ad ca1 p.2.1)) [.ref (ad 4 0)].toArray ss (b0.1 - p.2.2.1) (b0.2 - p.2.2.2) (hp_A (cd_pic cA ad ca0 σ0) sz)) (F0 mm 47 ls []) := by
    intro ca hj σ b l1 H locs ls hb1 hb2 hf1 hf2 h hw hl
    refine lv_aload_n cx.1 cx.2.1 dX4_readNew_47 rfl (lv_at hl 0 rfl) ?_
    obtain ⟨u1, e_u1, h⟩ := md_ob h
    have hb_u1 : u1 < 60 := (cd_dps e_u1).2
    refine cd_gP (o2 := 9) (u := u1) (o := 4) (k := 8) (f := 136) hj cx hw hic4 rfl ⟨by decide, rfl, by decide, rfl⟩ rfl (by decide) rfl e_u1 (List.mem_cons_of_mem _ cm_749) dX4_readNew_48 ?_
    refine lv_iconst (v := 4) cx.1 cx.2.1 dX4_readNew_51 (by decide) ?_
    refine lv_iload_n cx.1 cx.2.1 dX4_readNew_52 rfl (lv_at hl 1 rfl) ?_
    refine lv_iconst (v := 0) cx.1 cx.2.1 dX4_readNew_53 (by decide) ?_
    obtain ⟨p2, e_p2, h⟩ := md_ob h
    obtain ⟨hm3, hn3, h⟩ := cd_cks h
    have hM3 : p.2.2.1 ≤ p2.2.2.1 ∧ p.2.2.2 ≤ p2.2.2.2 := ⟨hm3, hn3⟩
    have hle2 := (kc_X9_emit l D cA E sz ad _ hj oq sgq sgv hE n σ b u1 (4 : Int32) l1 (0 : Int32) (show _ < 60 by omega) p2 e_p2).1
    refine hp_callVv (As := [.int 4, .int l1, .int 0]) (rest := []) cx hw ((kc_X9_emit l D cA E _ ad _ hj oq sgq sgv hE n σ b u1 (4 : Int32) l1 (0 : Int32) (show _ < 60 by omega) p2 e_p2).2) (cwV 3 cx.2.2.2.2.2.1 (cd_giV cm_781 cm_782 cm_783 cm_114 cm_784) rfl rfl rfl hdc_X9_emit ⟨Nat.le_of_ble_eq_true rfl, Nat.le_of_ble_eq_true rfl⟩) (cd_atO hj (by decide) (show _ < 60 by omega)) rfl rfl hl.1 rfl (Nat.le_of_ble_eq_true rfl) dX4_readNew_54 ⟨by (try dsimp only); omega, by (try dsimp only); omega⟩ (fun u H locs hp hw => ?_)
    obtain ⟨ca, hj, rfl⟩ := hp
    refine W.widen (k := b0.1 - p2.2.2.1) (n := b0.2 - p2.2.2.2) (by omega) (by omega) ?_
    refine lv_aload_n cx.1 cx.2.1 dX4_readNew_57 rfl (lv_at hl 0 rfl) ?_
    refine cd_gO (o2 := 10) (e2 := 0) (o := 4) (k := 0) (f := 128) hj cx hw hic4 rfl ⟨by decide, rfl, by decide, rfl⟩ rfl (by decide) ⟨rfl, rfl⟩ (List.mem_cons_of_mem _ cm_658) dX4_readNew_58 ?_
    obtain ⟨p4, e_p4, h⟩ := md_ob h
    refine hp_callVv (As := []) (rest := []) cx hw (kc_X10_advance l D cA E _ ad _ hj oq sgq sgv hE n p2.2.1  p4 e_p4) (cwV 0 cx.2.2.2.2.2.1 (cd_giV cm_670 cm_671 cm_672 cm_301 cm_673) rfl rfl rfl hdc_X10_advance ⟨Nat.le_of_ble_eq_true rfl, Nat.le_of_ble_eq_true rfl⟩) (cd_atO hj (by decide) (by decide)) rfl rfl hl.1 rfl (Nat.le_of_ble_eq_true rfl) dX4_readNew_61 ⟨by (try dsimp only); omega, by (try dsimp only); omega⟩ (fun u H locs hp hw => ?_)
    obtain ⟨ca, hj, rfl⟩ := hp
    exact hp_vret cx hw ((cd_retb hj (congrArg some (Sum.inl.inj (Option.some.inj h)))).2) dX4_readNew_64 (cd_le1 (congrArg some (Sum.inl.inj (Option.some.inj h)))) (cd_le2 (congrArg some (Sum.inl.inj (Option.some.inj h))))
  refine lv_aload_n cx.1 cx.2.1 dX4_readNew_0 rfl (lv_at hl 0 rfl) ?_
  obtain ⟨q5, e_q5, h⟩ := md_ob h
  obtain ⟨hm6, hn6, h⟩ := cd_cks h
  have hM6 : p.2.2.1 ≤ (Sum.elim (fun (p : Int32 × cd_S × cd_B) => p.2.2) (fun (t : cd_S × cd_B) => t.2) q5).1 ∧ p.2.2.2 ≤ (Sum.elim (fun (p : Int32 × cd_S × cd_B) => p.2.2) (fun (t : cd_S × cd_B) => t.2) q5).2 := ⟨hm6, hn6⟩
  cases q5 with
  | inr t5 =>
    exact nomatch Option.some.inj h
  | inl p5 =>
    have hle5 := (kc_X4_part l D cA E sz ad _ hj oq sgq sgv hE n σ0 b0  p5 e_q5).1
    have hM10006 : p.2.2.1 ≤ p5.2.2.1 ∧ p.2.2.2 ≤ p5.2.2.2 := hM6
    have h := cd_inl h
    refine hp_callVv (As := []) (rest := []) cx hw ((kc_X4_part l D cA E _ ad _ hj oq sgq sgv hE n σ0 b0  p5 e_q5).2) (cwV 0 cx.2.2.2.2.2.1 (cd_giV cm_764 cm_765 cm_766 cm_663 cm_767) rfl rfl rfl hdc_X4_part ⟨Nat.le_of_ble_eq_true rfl, Nat.le_of_ble_eq_true rfl⟩) (cd_atO hj (by decide) (by decide)) rfl rfl hl.1 rfl (Nat.le_of_ble_eq_true rfl) dX4_readNew_1 ⟨by (try dsimp only); omega, by (try dsimp only); omega⟩ (fun u H locs hp hw => ?_)
    obtain ⟨ca, hj, rfl⟩ := hp
    refine W.widen (k := b0.1 - p5.2.2.1) (n := b0.2 - p5.2.2.2) (by omega) (by omega) ?_
    refine lv_aload_n cx.1 cx.2.1 dX4_readNew_4 rfl (lv_at hl 0 rfl) ?_
    refine cd_gO (o2 := 10) (e2 := 0) (o := 4) (k := 0) (f := 128) hj cx hw hic4 rfl ⟨by decide, rfl, by decide, rfl⟩ rfl (by decide) ⟨rfl, rfl⟩ (List.mem_cons_of_mem _ cm_658) dX4_readNew_5 ?_
    obtain ⟨p7, e_p7, h⟩ := md_ob h
    refine hp_callVv (As := []) (rest := []) cx hw (kc_X10_advance l D cA E _ ad _ hj oq sgq sgv hE n p5.2.1  p7 e_p7) (cwV 0 cx.2.2.2.2.2.1 (cd_giV cm_670 cm_671 cm_672 cm_301 cm_673) rfl rfl rfl hdc_X10_advance ⟨Nat.le_of_ble_eq_true rfl, Nat.le_of_ble_eq_true rfl⟩) (cd_atO hj (by decide) (by decide)) rfl rfl hl.1 rfl (Nat.le_of_ble_eq_true rfl) dX4_readNew_8 ⟨by (try dsimp only); omega, by (try dsimp only); omega⟩ (fun u H locs hp hw => ?_)
    obtain ⟨ca, hj, rfl⟩ := hp
    refine lv_aload_n cx.1 cx.2.1 dX4_readNew_11 rfl (lv_at hl 0 rfl) ?_
    obtain ⟨q8, e_q8, h⟩ := md_ob h
    obtain ⟨hm9, hn9, h⟩ := cd_cks h
    have hM9 : p.2.2.1 ≤ (Sum.elim (fun (p : Int32 × cd_S × cd_B) => p.2.2) (fun (t : cd_S × cd_B) => t.2) q8).1 ∧ p.2.2.2 ≤ (Sum.elim (fun (p : Int32 × cd_S × cd_B) => p.2.2) (fun (t : cd_S × cd_B) => t.2) q8).2 := ⟨hm9, hn9⟩
    cases q8 with
    | inr t8 =>
      exact nomatch Option.some.inj h
    | inl p8 =>
      have hle8 := (kc_X4_needName l D cA E sz ad _ hj oq sgq sgv hE n p7.2 (p5.2.2)  p8 e_q8).1
      have hM10009 : p.2.2.1 ≤ p8.2.2.1 ∧ p.2.2.2 ≤ p8.2.2.2 := hM9
      have h := cd_inl h
      refine hp_callVv (As := []) (rest := []) cx hw ((kc_X4_needName l D cA E _ ad _ hj oq sgq sgv hE n p7.2 (p5.2.2)  p8 e_q8).2) (cwV 0 cx.2.2.2.2.2.1 (cd_giV cm_687 cm_688 cm_689 cm_663 cm_690) rfl rfl rfl hdc_X4_needName ⟨Nat.le_of_ble_eq_true rfl, Nat.le_of_ble_eq_true rfl⟩) (cd_atO hj (by decide) (by decide)) rfl rfl hl.1 rfl (Nat.le_of_ble_eq_true rfl) dX4_readNew_12 ⟨by (try dsimp only); omega, by (try dsimp only); omega⟩ (fun u H locs hp hw => ?_)
      obtain ⟨ca, hj, rfl⟩ := hp
      refine W.widen (k := b0.1 - p8.2.2.1) (n := b0.2 - p8.2.2.2) (by omega) (by omega) ?_
      refine lv_aload_n cx.1 cx.2.1 dX4_readNew_15 rfl (lv_at hl 0 rfl) ?_
      refine cd_gO (o2 := 2) (e2 := 0) (o := 4) (k := 1) (f := 129) hj cx hw hic4 rfl ⟨by decide, rfl, by decide, rfl⟩ rfl (by decide) ⟨rfl, rfl⟩ (List.mem_cons_of_mem _ cm_722) dX4_readNew_16 ?_
      refine lv_aload_n cx.1 cx.2.1 dX4_readNew_19 rfl (lv_at hl 0 rfl) ?_
      refine cd_gO (o2 := 10) (e2 := 0) (o := 4) (k := 0) (f := 128) hj cx hw hic4 rfl ⟨by decide, rfl, by decide, rfl⟩ rfl (by decide) ⟨rfl, rfl⟩ (List.mem_cons_of_mem _ cm_658) dX4_readNew_20 ?_
      refine cd_gJ (o := 10) (k := 10) (f := 330) hj cx hw hic10 rfl ⟨by decide, rfl, by decide, rfl⟩ rfl (by decide) (List.mem_cons_of_mem _ cm_695) dX4_readNew_23 ?_
      obtain ⟨p10, e_p10, h⟩ := md_ob h
      refine hp_callVi (As := [.long (cJ p8.2.1 330 0)]) (rest := []) cx hw (kc_X2_findModule l D cA E _ ad _ hj oq sgq sgv hE n p8.2.1 ((cJ p8.2.1 330 0)) p10 e_p10) (cwV 1 cx.2.2.2.2.2.1 (cd_giV cm_823 cm_824 cm_825 cm_167 cm_826) rfl rfl rfl hdc_X2_findModule ⟨Nat.le_of_ble_eq_true rfl, Nat.le_of_ble_eq_true rfl⟩) (cd_atO hj (by decide) (by decide)) rfl rfl hl.1 rfl (Nat.le_of_ble_eq_true rfl) dX4_readNew_26 ⟨by (try dsimp only); omega, by (try dsimp only); omega⟩ (fun r u H locs hp hw => ?_)
      obtain ⟨rfl, ca, hj, rfl⟩ := hp
      refine lv_istore_n (lv' := [(1, .int p10.1), (0, .ref (ad 4 0))]) cx.1 cx.2.1 dX4_readNew_29 rfl hl (by decide) rfl (fun ls hl => ?_)
      refine lv_iload_n cx.1 cx.2.1 dX4_readNew_30 rfl (lv_at hl 0 rfl) ?_
      refine lv_iconst (v := (-1)) cx.1 cx.2.1 dX4_readNew_31 (by decide) ?_
      refine lv_icmp_ne (tgt := 47) cx.1 cx.2.1 dX4_readNew_32 (by decide) (fun c32 => ?_) (fun c32 => ?_)
      · have h := md_in c32 h
        exact J47 _ hj p10.2 (p8.2.2) (p10.1) _ _ _ (by omega) (by omega) (by omega) (by omega) h hw (lv_sub hl [1, 0] rfl)
      · have h := md_ip c32 h
        refine lv_aload_n cx.1 cx.2.1 dX4_readNew_35 rfl (lv_at hl 1 rfl) ?_
        refine lv_iconst (v := 3) cx.1 cx.2.1 dX4_readNew_36 (by decide) ?_
        refine lv_aload_n cx.1 cx.2.1 dX4_readNew_37 rfl (lv_at hl 1 rfl) ?_
        refine cd_gO (o2 := 10) (e2 := 0) (o := 4) (k := 0) (f := 128) hj cx hw hic4 rfl ⟨by decide, rfl, by decide, rfl⟩ rfl (by decide) ⟨rfl, rfl⟩ (List.mem_cons_of_mem _ cm_658) dX4_readNew_38 ?_
        refine cd_gI (o := 10) (k := 9) (f := 329) hj cx hw hic10 rfl ⟨by decide, rfl, by decide, rfl⟩ rfl (by decide) (List.mem_cons_of_mem _ cm_659) dX4_readNew_41 ?_
        obtain ⟨q11, e_q11, h⟩ := md_ob h
        obtain ⟨hm12, hn12, h⟩ := cd_cks h
        have hM12 : p.2.2.1 ≤ (Sum.elim (fun (p : Int32 × cd_S × cd_B) => p.2.2) (fun (t : cd_S × cd_B) => t.2) q11).1 ∧ p.2.2.2 ≤ (Sum.elim (fun (p : Int32 × cd_S × cd_B) => p.2.2) (fun (t : cd_S × cd_B) => t.2) q11).2 := ⟨hm12, hn12⟩
        cases q11 with
        | inr t11 =>
          exact nomatch Option.some.inj h
        | inl p11 =>
          have hle11 := (kc_X4_refuse l D cA E sz ad _ hj oq sgq sgv hE n p10.2 (p8.2.2) (3 : Int32) ((cI p10.2 329 0)) p11 e_q11).1
          have hM10012 : p.2.2.1 ≤ p11.2.2.1 ∧ p.2.2.2 ≤ p11.2.2.2 := hM12
          have h := cd_inl h
          refine hp_callVv (As := [.int 3, .int (cI p10.2 329 0)]) (rest := []) cx hw ((kc_X4_refuse l D cA E _ ad _ hj oq sgq sgv hE n p10.2 (p8.2.2) (3 : Int32) ((cI p10.2 329 0)) p11 e_q11).2) (cwV 2 cx.2.2.2.2.2.1 (cd_giV cm_660 cm_661 cm_662 cm_663 cm_664) rfl rfl rfl hdc_X4_refuse ⟨Nat.le_of_ble_eq_true rfl, Nat.le_of_ble_eq_true rfl⟩) (cd_atO hj (by decide) (by decide)) rfl rfl hl.1 rfl (Nat.le_of_ble_eq_true rfl) dX4_readNew_44 ⟨by (try dsimp only); omega, by (try dsimp only); omega⟩ (fun u H locs hp hw => ?_)
          obtain ⟨ca, hj, rfl⟩ := hp
          refine W.widen (k := b0.1 - p11.2.2.1) (n := b0.2 - p11.2.2.2) (by omega) (by omega) ?_
          exact J47 _ hj p11.2.1 (p11.2.2) (p10.1) _ _ _ (by omega) (by omega) (by omega) (by omega) h hw (lv_sub hl [1, 0] rfl)
set_option maxHeartbeats 4000000 in
set_option maxRecDepth 100000 in
theorem kc_X9_capture (l : Launch) (D : va_G) (cA : Nat → ClassId) (E : hp_N) (sz : Nat) (ad : Nat → Nat → Nat) (ca0 : Nat → Nat) (hj : cd_inj ad ca0) (oq sgq sgv : Nat) (hE : cd_E E oq sgq sgv) (n : Nat) (σ0 : cd_S) (a0 : Nat) (a1 : Int32) (hb_a0 : a0 < 60) (p : (Int32 × cd_S)) (h : f_X9_capture n σ0 a0 a1 = some p) : Met l yX9_capture (Cond.code yX9_capture cX9_capture 4 none :: v_CLS) ({ frames := 0, cells := 0, slots := 0, locals := 0 }) (hp_Pc D vwCl (hp_Tl cA) E sz (cd_pic cA ad ca0 σ0) [.ref (ad 9 a0), .int a1]) (hp_Qv D vwCl (hp_Tl cA) sz (cd_pic cA ad ca0 σ0) (fun u => ∃ ca1, cd_inj ad ca1 ∧ u = cd_pic cA ad ca1 p.2)) 0 0 (hp_A (cd_pic cA ad ca0 σ0) sz) := by
  refine hp_ofW (cc := cX9_capture) (maxL := 4) (ret := none) (by decide) rfl (Nat.le_of_ble_eq_true rfl) ?_
  intro pp ee ss mm bb mt cd ls cx hsz hw hl
  have hl : lv_has ls 4 [(0, .ref (ad 9 a0)), (1, .int a1)] := hl
  refine lv_iconst (v := 0) cx.1 cx.2.1 dX9_capture_0 (by decide) ?_
  refine lv_istore_n (lv' := [(2, .int 0), (0, .ref (ad 9 a0)), (1, .int a1)]) cx.1 cx.2.1 dX9_capture_1 rfl hl (by decide) rfl (fun ls hl => ?_)
  refine lv_iconst (v := 0) cx.1 cx.2.1 dX9_capture_2 (by decide) ?_
  refine lv_istore_n (lv' := [(3, .int 0), (2, .int 0), (0, .ref (ad 9 a0)), (1, .int a1)]) cx.1 cx.2.1 dX9_capture_3 rfl hl (by decide) rfl (fun ls hl => ?_)
  have L4 : ∀ (j : Nat) (ca : Nat → Nat) (hj : cd_inj ad ca) (σ : cd_S) (l1 : Int32) (l2 : Int32) (l3 : Int32) (q : (cd_S × Int32 × Int32)) (H : Heap) (locs : List Loc) (ls : Array Slot), f_X9_capture_L4 n a0 l1 j σ l2 l3 = some q → hp_w D vwCl (hp_Tl cA) E (hp_A (cd_pic cA ad ca0 σ0) sz) ss H locs (cd_pic cA ad ca σ) → lv_has ls 4 [(0, .ref (ad 9 a0)), (1, .int l1), (2, .int l2), (3, .int l3)] → (∀ (ca : Nat → Nat) (hj : cd_inj ad ca) (H : Heap) (locs : List Loc) (ls : Array Slot), hp_w D vwCl (hp_Tl cA) E (hp_A (cd_pic cA ad ca0 σ0) sz) ss H locs (cd_pic cA ad ca q.1) → lv_has ls 4 [(0, .ref (ad 9 a0)), (1, .int l1), (2, .int q.2.1)] → W pp l ee ({ frames := 0, cells := 0, slots := 0, locals := 0 }) ss mm [.ref (ad 9 a0), .int a1].toArray bb mt cd H locs 0 0 (MQ bb (hp_Qv D vwCl (hp_Tl cA) sz (cd_pic cA ad ca0 σ0) (fun u => ∃ ca1, cd_inj ad ca1 ∧ u = cd_pic cA ad ca1 p.2)) [.ref (ad 9 a0), .int a1].toArray ss 0 0 (hp_A (cd_pic cA ad ca0 σ0) sz)) (F0 mm 38 ls [])) → W pp l ee ({ frames := 0, cells := 0, slots := 0, locals := 0 }) ss mm [.ref (ad 9 a0), .int a1].toArray bb mt cd H locs 0 0 (MQ bb (hp_Qv D vwCl (hp_Tl cA) sz (cd_pic cA ad ca0 σ0) (fun u => ∃ ca1, cd_inj ad ca1 ∧ u = cd_pic cA ad ca1 p.2)) [.ref (ad 9 a0), .int a1].toArray ss 0 0 (hp_A (cd_pic cA ad ca0 σ0) sz)) (F0 mm 4 ls []) := by
    intro j
    induction j with
    | zero => intro ca hj σ l1 l2 l3 q H locs ls h; exact nomatch h
    | succ j ih =>
      intro ca hj σ l1 l2 l3 q H locs ls h hw hl K
      unfold f_X9_capture_L4 at h
      have J31 : ∀ (ca : Nat → Nat) (hj : cd_inj ad ca) (σ : cd_S) (l3 : Int32) (t0 : Int32) (H : Heap) (locs : List Loc) (ls : Array Slot), f_X9_capture_J31 n a0 l1 (f_X9_capture_L4 n a0 l1 j) σ l3 t0 = some q → hp_w D vwCl (hp_Tl cA) E (hp_A (cd_pic cA ad ca0 σ0) sz) ss H locs (cd_pic cA ad ca σ) → lv_has ls 4 [(0, .ref (ad 9 a0)), (1, .int l1), (3, .int l3)] → W pp l ee ({ frames := 0, cells := 0, slots := 0, locals := 0 }) ss mm [.ref (ad 9 a0), .int a1].toArray bb mt cd H locs 0 0 (MQ bb (hp_Qv D vwCl (hp_Tl cA) sz (cd_pic cA ad ca0 σ0) (fun u => ∃ ca1, cd_inj ad ca1 ∧ u = cd_pic cA ad ca1 p.2)) [.ref (ad 9 a0), .int a1].toArray ss 0 0 (hp_A (cd_pic cA ad ca0 σ0) sz)) (F0 mm 31 ls [.int t0]) := by
        intro ca hj σ l3 t0 H locs ls h hw hl
        refine lv_istore_n (lv' := [(2, .int t0), (0, .ref (ad 9 a0)), (1, .int l1), (3, .int l3)]) cx.1 cx.2.1 dX9_capture_31 rfl hl (by decide) rfl (fun ls hl => ?_)
        refine lv_iinc (v := (l3 + 1)) (lv' := [(3, .int (l3 + 1)), (2, .int t0), (0, .ref (ad 9 a0)), (1, .int l1)]) cx.1 cx.2.1 dX9_capture_32 hl (k := 3) rfl rfl (by decide) rfl (fun ls hl => ?_)
        refine lv_goto (tgt := 4) cx.1 cx.2.1 dX9_capture_35 (by decide) ?_
        exact ih _ hj σ l1 t0 ((l3 + 1)) q _ _ _ h hw (lv_sub hl [2, 3, 1, 0] rfl) K
      have J26 : ∀ (ca : Nat → Nat) (hj : cd_inj ad ca) (σ : cd_S) (l3 : Int32) (H : Heap) (locs : List Loc) (ls : Array Slot), f_X9_capture_J26 n a0 l1 (f_X9_capture_L4 n a0 l1 j) σ l3 = some q → hp_w D vwCl (hp_Tl cA) E (hp_A (cd_pic cA ad ca0 σ0) sz) ss H locs (cd_pic cA ad ca σ) → lv_has ls 4 [(0, .ref (ad 9 a0)), (1, .int l1), (3, .int l3)] → W pp l ee ({ frames := 0, cells := 0, slots := 0, locals := 0 }) ss mm [.ref (ad 9 a0), .int a1].toArray bb mt cd H locs 0 0 (MQ bb (hp_Qv D vwCl (hp_Tl cA) sz (cd_pic cA ad ca0 σ0) (fun u => ∃ ca1, cd_inj ad ca1 ∧ u = cd_pic cA ad ca1 p.2)) [.ref (ad 9 a0), .int a1].toArray ss 0 0 (hp_A (cd_pic cA ad ca0 σ0) sz)) (F0 mm 26 ls []) := by
        intro ca hj σ l3 H locs ls h hw hl
        refine lv_iconst (v := 1) cx.1 cx.2.1 dX9_capture_26 (by decide) ?_
        refine lv_goto (tgt := 31) cx.1 cx.2.1 dX9_capture_27 (by decide) ?_
        exact J31 _ hj σ l3 1 _ _ _ h hw (lv_sub hl [0, 1, 2] rfl)
      refine lv_iload_n cx.1 cx.2.1 dX9_capture_4 rfl (lv_at hl 3 rfl) ?_
      refine lv_aload_n cx.1 cx.2.1 dX9_capture_5 rfl (lv_at hl 0 rfl) ?_
      refine cd_gI (o := 9) (k := 11) (f := 299) hj cx hw hic9 rfl ⟨by decide, rfl, by decide, rfl⟩ rfl (show _ < 60 by omega) (List.mem_cons_of_mem _ cm_97) dX9_capture_6 ?_
      refine lv_icmp_ge (tgt := 38) cx.1 cx.2.1 dX9_capture_9 (by decide) (fun c9 => ?_) (fun c9 => ?_)
      · have h := md_ip c9 h
        obtain rfl := Option.some.inj h
        exact K _ hj _ _ _ hw (lv_sub hl [0, 1, 2] rfl)
      · have h := md_in c9 h
        refine lv_iload_n cx.1 cx.2.1 dX9_capture_12 rfl (lv_at hl 2 rfl) ?_
        refine lv_if_ne (tgt := 26) cx.1 cx.2.1 dX9_capture_13 (by decide) (fun c13 => ?_) (fun c13 => ?_)
        · have h := md_in c13 h
          exact J26 _ hj σ l3 _ _ _ h hw (lv_sub hl [0, 1, 3] rfl)
        · have h := md_ip c13 h
          refine lv_aload_n cx.1 cx.2.1 dX9_capture_16 rfl (lv_at hl 0 rfl) ?_
          refine cd_gA (o := 9) (k := 12) (f := 300) hj cx hw hic9 rfl ⟨by decide, rfl, by decide, rfl⟩ rfl (show _ < 60 by omega) (List.mem_cons_of_mem _ cm_577) dX9_capture_17 ?_
          refine lv_iload_n cx.1 cx.2.1 dX9_capture_20 rfl (lv_at hl 3 rfl) ?_
          obtain ⟨v1, e_v1, h⟩ := md_ob h
          refine cd_lI (f := 300) hj cx hw (by decide) (show _ < 60 by omega) rfl e_v1 dX9_capture_21 ?_
          refine lv_iload_n cx.1 cx.2.1 dX9_capture_22 rfl (lv_at hl 1 rfl) ?_
          refine lv_icmp_ne (tgt := 30) cx.1 cx.2.1 dX9_capture_23 (by decide) (fun c23 => ?_) (fun c23 => ?_)
          · have h := md_in c23 h
            refine lv_iconst (v := 0) cx.1 cx.2.1 dX9_capture_30 (by decide) ?_
            exact J31 _ hj σ l3 0 _ _ _ h hw (lv_sub hl [0, 1, 3] rfl)
          · have h := md_ip c23 h
            exact J26 _ hj σ l3 _ _ _ h hw (lv_sub hl [0, 1, 3] rfl)
  obtain ⟨q2, e_q2, h⟩ := md_ob h
  refine L4 n _ hj σ0 a1 0 0 q2 _ _ _ e_q2 hw (lv_sub hl [2, 3, 1, 0] rfl) (fun ca hj H locs ls hw hl => ?_)
  refine lv_iload_n cx.1 cx.2.1 dX9_capture_38 rfl (lv_at hl 2 rfl) ?_
  refine lv_if_ne (tgt := 71) cx.1 cx.2.1 dX9_capture_39 (by decide) (fun c39 => ?_) (fun c39 => ?_)
  · have h := md_in c39 h
    exact hp_vret cx hw ((cd_ret hj h).2) dX9_capture_71
  · have h := md_ip c39 h
    refine lv_aload_n cx.1 cx.2.1 dX9_capture_42 rfl (lv_at hl 0 rfl) ?_
    refine cd_gI (o := 9) (k := 11) (f := 299) hj cx hw hic9 rfl ⟨by decide, rfl, by decide, rfl⟩ rfl (show _ < 60 by omega) (List.mem_cons_of_mem _ cm_97) dX9_capture_43 ?_
    refine lv_bipush (v := 13) cx.1 cx.2.1 dX9_capture_46 (by decide) ?_
    refine lv_icmp_ge (tgt := 71) cx.1 cx.2.1 dX9_capture_48 (by decide) (fun c48 => ?_) (fun c48 => ?_)
    · have h := md_ip c48 h
      exact hp_vret cx hw ((cd_ret hj h).2) dX9_capture_71
    · have h := md_in c48 h
      refine lv_aload_n cx.1 cx.2.1 dX9_capture_51 rfl (lv_at hl 0 rfl) ?_
      refine cd_gA (o := 9) (k := 12) (f := 300) hj cx hw hic9 rfl ⟨by decide, rfl, by decide, rfl⟩ rfl (show _ < 60 by omega) (List.mem_cons_of_mem _ cm_577) dX9_capture_52 ?_
      refine lv_aload_n cx.1 cx.2.1 dX9_capture_55 rfl (lv_at hl 0 rfl) ?_
      refine cd_gI (o := 9) (k := 11) (f := 299) hj cx hw hic9 rfl ⟨by decide, rfl, by decide, rfl⟩ rfl (show _ < 60 by omega) (List.mem_cons_of_mem _ cm_97) dX9_capture_56 ?_
      refine lv_iload_n cx.1 cx.2.1 dX9_capture_59 rfl (lv_at hl 1 rfl) ?_
      obtain ⟨σ3, e_σ3, h⟩ := md_ob h
      refine cd_sI (f := 300) hj cx hw (by decide) (show _ < 60 by omega) rfl e_σ3 dX9_capture_60 (fun H locs hw => ?_)
      refine lv_aload_n cx.1 cx.2.1 dX9_capture_61 rfl (lv_at hl 0 rfl) ?_
      refine lv_dup cx.1 cx.2.1 dX9_capture_62 rfl ?_
      refine cd_gI (o := 9) (k := 11) (f := 299) hj cx hw hic9 rfl ⟨by decide, rfl, by decide, rfl⟩ rfl (show _ < 60 by omega) (List.mem_cons_of_mem _ cm_97) dX9_capture_63 ?_
      refine lv_iconst (v := 1) cx.1 cx.2.1 dX9_capture_66 (by decide) ?_
      refine lv_iadd cx.1 cx.2.1 dX9_capture_67 ?_
      obtain ⟨σ4, e_σ4, h⟩ := md_ob h
      refine cd_pI (o := 9) (k := 11) (f := 299) hj cx hw hic9 rfl ⟨by decide, rfl, by decide, rfl⟩ tyX9_ok nmX9 rfl (show _ < 60 by omega) rfl (List.mem_cons_of_mem _ cm_97) rfl e_σ4 dX9_capture_68 (fun H locs hw => ?_)
      exact hp_vret cx hw ((cd_ret hj h).2) dX9_capture_71
set_option maxHeartbeats 4000000 in
set_option maxRecDepth 100000 in
theorem kc_X4_getVariable (l : Launch) (D : va_G) (cA : Nat → ClassId) (E : hp_N) (sz : Nat) (ad : Nat → Nat → Nat) (ca0 : Nat → Nat) (hj : cd_inj ad ca0) (oq sgq sgv : Nat) (hE : cd_E E oq sgq sgv) (n : Nat) (σ0 : cd_S) (b0 : cd_B) (a1 : Int32) (p : (Int32 × cd_S × cd_B)) (h : f_X4_getVariable n σ0 b0 a1 = some p) : (p.2.2.1 ≤ b0.1 ∧ p.2.2.2 ≤ b0.2) ∧ Met l yX4_getVariable (Cond.code yX4_getVariable cX4_getVariable 5 none :: v_CLS) ({ frames := 5, cells := b0.1 - p.2.2.1, slots := b0.2 - p.2.2.2, locals := 134 }) (hp_Pc D vwCl (hp_Tl cA) E sz (cd_pic cA ad ca0 σ0) [.ref (ad 4 0), .int a1]) (hp_Qv D vwCl (hp_Tl cA) sz (cd_pic cA ad ca0 σ0) (fun u => ∃ ca1, cd_inj ad ca1 ∧ u = cd_pic cA ad ca1 p.2.1)) (b0.1 - p.2.2.1) (b0.2 - p.2.2.2) (hp_A (cd_pic cA ad ca0 σ0) sz) := by
  obtain ⟨hm0, hn0, h⟩ := cd_cks h
  have hM0 : p.2.2.1 ≤ b0.1 ∧ p.2.2.2 ≤ b0.2 := ⟨hm0, hn0⟩
  refine ⟨hM0, ?_⟩
  refine hp_ofW (cc := cX4_getVariable) (maxL := 5) (ret := none) (by decide) rfl (Nat.le_of_ble_eq_true rfl) ?_
  intro pp ee ss mm bb mt cd ls cx hsz hw hl
  have hl : lv_has ls 5 [(0, .ref (ad 4 0)), (1, .int a1)] := hl
  refine W.widen (k := b0.1 - b0.1) (n := b0.2 - b0.2) (Nat.zero_le _) (Nat.zero_le _) ?_
  refine lv_aload_n cx.1 cx.2.1 dX4_getVariable_0 rfl (lv_at hl 0 rfl) ?_
  obtain ⟨u1, e_u1, h⟩ := md_ob h
  have hb_u1 : u1 < 60 := (cd_dps e_u1).2
  refine cd_gP (o2 := 9) (u := u1) (o := 4) (k := 8) (f := 136) hj cx hw hic4 rfl ⟨by decide, rfl, by decide, rfl⟩ rfl (by decide) rfl e_u1 (List.mem_cons_of_mem _ cm_749) dX4_getVariable_1 ?_
  refine lv_astore_n (lv' := [(2, .ref (ad 9 u1)), (0, .ref (ad 4 0)), (1, .int a1)]) cx.1 cx.2.1 dX4_getVariable_4 rfl hl (by decide) rfl (fun ls hl => ?_)
  refine lv_iload_n cx.1 cx.2.1 dX4_getVariable_5 rfl (lv_at hl 2 rfl) ?_
  obtain ⟨p2, e_p2, h⟩ := md_ob h
  refine hp_callSi (As := [.int a1]) (rest := []) cx hw (kc_X9_ownerOf l D cA E _ ad _ hj oq sgq sgv hE n σ0 a1 p2 e_p2) (va_cwS 1 cx.2.2.2.2.2.1 (cd_giS cm_827 cm_579 cm_114 cm_580) rfl rfl rfl (cd_hdS hdc_X9_ownerOf) ⟨Nat.le_of_ble_eq_true rfl, Nat.le_of_ble_eq_true rfl⟩) rfl hl.1 rfl (Nat.le_of_ble_eq_true rfl) dX4_getVariable_6 ⟨by (try dsimp only); omega, by (try dsimp only); omega⟩ (fun r u H locs hp hw => ?_)
  obtain ⟨rfl, ca, hj, rfl⟩ := hp
  refine lv_istore_n (lv' := [(3, .int p2.1), (2, .ref (ad 9 u1)), (0, .ref (ad 4 0)), (1, .int a1)]) cx.1 cx.2.1 dX4_getVariable_9 rfl hl (by decide) rfl (fun ls hl => ?_)
  refine lv_iconst (v := 0) cx.1 cx.2.1 dX4_getVariable_10 (by decide) ?_
  refine lv_istore (lv' := [(4, .int 0), (3, .int p2.1), (2, .ref (ad 9 u1)), (0, .ref (ad 4 0)), (1, .int a1)]) cx.1 cx.2.1 dX4_getVariable_11 hl (by decide) rfl (fun ls hl => ?_)
  have L13 : ∀ (j : Nat) (ca : Nat → Nat) (hj : cd_inj ad ca) (σ : cd_S) (b : cd_B) (l1 : Int32) (l3 : Int32) (l2 : Nat) (l4 : Int32) (q : (cd_S × cd_B × Nat × Int32)) (H : Heap) (locs : List Loc) (ls : Array Slot), l2 < 60 → b.1 ≤ b0.1 → b.2 ≤ b0.2 → p.2.2.1 ≤ b.1 → p.2.2.2 ≤ b.2 → p.2.2.1 ≤ q.2.1.1 → p.2.2.2 ≤ q.2.1.2 → f_X4_getVariable_L13 n l1 l3 j σ b l2 l4 = some q → hp_w D vwCl (hp_Tl cA) E (hp_A (cd_pic cA ad ca0 σ0) sz) ss H locs (cd_pic cA ad ca σ) → lv_has ls 5 [(0, .ref (ad 4 0)), (1, .int l1), (2, .ref (ad 9 l2)), (3, .int l3), (4, .int l4)] → (∀ (ca : Nat → Nat) (hj : cd_inj ad ca) (H : Heap) (locs : List Loc) (ls : Array Slot), q.2.1.1 ≤ b0.1 → q.2.1.2 ≤ b0.2 → hp_w D vwCl (hp_Tl cA) E (hp_A (cd_pic cA ad ca0 σ0) sz) ss H locs (cd_pic cA ad ca q.1) → lv_has ls 5 [(0, .ref (ad 4 0)), (1, .int l1)] → W pp l ee ({ frames := 5, cells := b0.1 - p.2.2.1, slots := b0.2 - p.2.2.2, locals := 134 }) ss mm [.ref (ad 4 0), .int a1].toArray bb mt cd H locs (b0.1 - q.2.1.1) (b0.2 - q.2.1.2) (MQ bb (hp_Qv D vwCl (hp_Tl cA) sz (cd_pic cA ad ca0 σ0) (fun u => ∃ ca1, cd_inj ad ca1 ∧ u = cd_pic cA ad ca1 p.2.1)) [.ref (ad 4 0), .int a1].toArray ss (b0.1 - p.2.2.1) (b0.2 - p.2.2.2) (hp_A (cd_pic cA ad ca0 σ0) sz)) (F0 mm 51 ls [])) → W pp l ee ({ frames := 5, cells := b0.1 - p.2.2.1, slots := b0.2 - p.2.2.2, locals := 134 }) ss mm [.ref (ad 4 0), .int a1].toArray bb mt cd H locs (b0.1 - b.1) (b0.2 - b.2) (MQ bb (hp_Qv D vwCl (hp_Tl cA) sz (cd_pic cA ad ca0 σ0) (fun u => ∃ ca1, cd_inj ad ca1 ∧ u = cd_pic cA ad ca1 p.2.1)) [.ref (ad 4 0), .int a1].toArray ss (b0.1 - p.2.2.1) (b0.2 - p.2.2.2) (hp_A (cd_pic cA ad ca0 σ0) sz)) (F0 mm 13 ls []) := by
    intro j
    induction j with
    | zero => intro ca hj σ b l1 l3 l2 l4 q H locs ls hb_l2 hb1 hb2 hf1 hf2 hq1 hq2 h; exact nomatch h
    | succ j ih =>
      intro ca hj σ b l1 l3 l2 l4 q H locs ls hb_l2 hb1 hb2 hf1 hf2 hq1 hq2 h hw hl K
      unfold f_X4_getVariable_L13 at h
      refine lv_iload cx.1 cx.2.1 dX4_getVariable_13 (lv_at hl 4 rfl) ?_
      refine lv_bipush (v := 60) cx.1 cx.2.1 dX4_getVariable_15 (by decide) ?_
      refine lv_icmp_ge (tgt := 51) cx.1 cx.2.1 dX4_getVariable_17 (by decide) (fun c17 => ?_) (fun c17 => ?_)
      · have h := md_ip c17 h
        obtain rfl := Option.some.inj h
        exact K _ hj _ _ _ (by (try dsimp only); omega) (by (try dsimp only); omega) hw (lv_sub hl [0, 1] rfl)
      · have h := md_in c17 h
        refine lv_aload_n cx.1 cx.2.1 dX4_getVariable_20 rfl (lv_at hl 2 rfl) ?_
        refine cd_gI (o := 9) (k := 0) (f := 288) hj cx hw hic9 rfl ⟨by decide, rfl, by decide, rfl⟩ rfl (show _ < 60 by omega) (List.mem_cons_of_mem _ cm_750) dX4_getVariable_21 ?_
        refine lv_iload_n cx.1 cx.2.1 dX4_getVariable_24 rfl (lv_at hl 3 rfl) ?_
        refine lv_icmp_eq (tgt := 51) cx.1 cx.2.1 dX4_getVariable_25 (by decide) (fun c25 => ?_) (fun c25 => ?_)
        · have h := md_ip c25 h
          obtain rfl := Option.some.inj h
          exact K _ hj _ _ _ (by (try dsimp only); omega) (by (try dsimp only); omega) hw (lv_sub hl [0, 1] rfl)
        · have h := md_in c25 h
          refine lv_aload_n cx.1 cx.2.1 dX4_getVariable_28 rfl (lv_at hl 2 rfl) ?_
          refine lv_iload_n cx.1 cx.2.1 dX4_getVariable_29 rfl (lv_at hl 1 rfl) ?_
          obtain ⟨p3, e_p3, h⟩ := md_ob h
          refine hp_callVv (As := [.int l1]) (rest := []) cx hw (kc_X9_capture l D cA E _ ad _ hj oq sgq sgv hE n σ l2 l1 (show _ < 60 by omega) p3 e_p3) (cwV 1 cx.2.2.2.2.2.1 (cd_giV cm_828 cm_829 cm_830 cm_114 cm_831) rfl rfl rfl hdc_X9_capture ⟨Nat.le_of_ble_eq_true rfl, Nat.le_of_ble_eq_true rfl⟩) (cd_atO hj (by decide) (show _ < 60 by omega)) rfl rfl hl.1 rfl (Nat.le_of_ble_eq_true rfl) dX4_getVariable_30 ⟨by (try dsimp only); omega, by (try dsimp only); omega⟩ (fun u H locs hp hw => ?_)
          obtain ⟨ca, hj, rfl⟩ := hp
          refine lv_aload_n cx.1 cx.2.1 dX4_getVariable_33 rfl (lv_at hl 0 rfl) ?_
          refine cd_gO (o2 := 2) (e2 := 0) (o := 4) (k := 1) (f := 129) hj cx hw hic4 rfl ⟨by decide, rfl, by decide, rfl⟩ rfl (by decide) ⟨rfl, rfl⟩ (List.mem_cons_of_mem _ cm_722) dX4_getVariable_34 ?_
          refine lv_aload_n cx.1 cx.2.1 dX4_getVariable_37 rfl (lv_at hl 2 rfl) ?_
          refine cd_gI (o := 9) (k := 7) (f := 295) hj cx hw hic9 rfl ⟨by decide, rfl, by decide, rfl⟩ rfl (show _ < 60 by omega) (List.mem_cons_of_mem _ cm_751) dX4_getVariable_38 ?_
          obtain ⟨p4, e_p4, h⟩ := md_ob h
          refine hp_callVr (As := [.int (cI p3.2 295 l2)]) (rest := []) cx hw (kc_X2_unitAt l D cA E _ ad _ hj oq sgq sgv hE n p3.2 ((cI p3.2 295 l2)) p4 e_p4) (cwV 1 cx.2.2.2.2.2.1 (cd_giV cm_785 cm_285 cm_286 cm_167 cm_287) rfl rfl rfl hdc_X2_unitAt ⟨Nat.le_of_ble_eq_true rfl, Nat.le_of_ble_eq_true rfl⟩) (cd_atO hj (by decide) (by decide)) rfl rfl hl.1 rfl (Nat.le_of_ble_eq_true rfl) dX4_getVariable_41 ⟨by (try dsimp only); omega, by (try dsimp only); omega⟩ (fun r u H locs hp hw => ?_)
          obtain ⟨⟨hb_p4, rfl⟩, ca, hj, rfl⟩ := hp
          refine lv_astore_n (lv' := [(2, .ref (ad 9 p4.1)), (0, .ref (ad 4 0)), (1, .int l1), (3, .int l3), (4, .int l4)]) cx.1 cx.2.1 dX4_getVariable_44 rfl hl (by decide) rfl (fun ls hl => ?_)
          refine lv_iinc (v := (l4 + 1)) (lv' := [(4, .int (l4 + 1)), (2, .ref (ad 9 p4.1)), (0, .ref (ad 4 0)), (1, .int l1), (3, .int l3)]) cx.1 cx.2.1 dX4_getVariable_45 hl (k := 4) rfl rfl (by decide) rfl (fun ls hl => ?_)
          refine lv_goto (tgt := 13) cx.1 cx.2.1 dX4_getVariable_48 (by decide) ?_
          exact ih _ hj p4.2 b l1 l3 (p4.1) ((l4 + 1)) q _ _ _ (by omega) (by omega) (by omega) (by omega) (by omega) hq1 hq2 h hw (lv_sub hl [2, 3, 1, 4, 0] rfl) K
  obtain ⟨q5, e_q5, h⟩ := md_ob h
  obtain ⟨hm6, hn6, h⟩ := cd_cks h
  have hM6 : p.2.2.1 ≤ q5.2.1.1 ∧ p.2.2.2 ≤ q5.2.1.2 := ⟨hm6, hn6⟩
  refine L13 n _ hj p2.2 b0 a1 (p2.1) u1 0 q5 _ _ _ (by omega) (by omega) (by omega) (by omega) (by omega) hM6.1 hM6.2 e_q5 hw (lv_sub hl [3, 4, 2, 1, 0] rfl) (fun ca hj H locs ls hb1 hb2 hw hl => ?_)
  refine lv_aload_n cx.1 cx.2.1 dX4_getVariable_51 rfl (lv_at hl 0 rfl) ?_
  obtain ⟨u7, e_u7, h⟩ := md_ob h
  have hb_u7 : u7 < 60 := (cd_dps e_u7).2
  refine cd_gP (o2 := 9) (u := u7) (o := 4) (k := 8) (f := 136) hj cx hw hic4 rfl ⟨by decide, rfl, by decide, rfl⟩ rfl (by decide) rfl e_u7 (List.mem_cons_of_mem _ cm_749) dX4_getVariable_52 ?_
  refine lv_iconst (v := 2) cx.1 cx.2.1 dX4_getVariable_55 (by decide) ?_
  refine lv_iload_n cx.1 cx.2.1 dX4_getVariable_56 rfl (lv_at hl 1 rfl) ?_
  refine lv_iconst (v := 0) cx.1 cx.2.1 dX4_getVariable_57 (by decide) ?_
  obtain ⟨p8, e_p8, h⟩ := md_ob h
  obtain ⟨hm9, hn9, h⟩ := cd_cks h
  have hM9 : p.2.2.1 ≤ p8.2.2.1 ∧ p.2.2.2 ≤ p8.2.2.2 := ⟨hm9, hn9⟩
  have hle8 := (kc_X9_emit l D cA E sz ad _ hj oq sgq sgv hE n q5.1 (q5.2.1) u7 (2 : Int32) a1 (0 : Int32) (show _ < 60 by omega) p8 e_p8).1
  refine hp_callVv (As := [.int 2, .int a1, .int 0]) (rest := []) cx hw ((kc_X9_emit l D cA E _ ad _ hj oq sgq sgv hE n q5.1 (q5.2.1) u7 (2 : Int32) a1 (0 : Int32) (show _ < 60 by omega) p8 e_p8).2) (cwV 3 cx.2.2.2.2.2.1 (cd_giV cm_781 cm_782 cm_783 cm_114 cm_784) rfl rfl rfl hdc_X9_emit ⟨Nat.le_of_ble_eq_true rfl, Nat.le_of_ble_eq_true rfl⟩) (cd_atO hj (by decide) (show _ < 60 by omega)) rfl rfl hl.1 rfl (Nat.le_of_ble_eq_true rfl) dX4_getVariable_58 ⟨by (try dsimp only); omega, by (try dsimp only); omega⟩ (fun u H locs hp hw => ?_)
  obtain ⟨ca, hj, rfl⟩ := hp
  refine W.widen (k := b0.1 - p8.2.2.1) (n := b0.2 - p8.2.2.2) (by omega) (by omega) ?_
  exact hp_vret cx hw ((cd_retb hj h).2) dX4_getVariable_61 (cd_le1 h) (cd_le2 h)
set_option maxHeartbeats 4000000 in
set_option maxRecDepth 100000 in
theorem kc_X4_variableKey (l : Launch) (D : va_G) (cA : Nat → ClassId) (E : hp_N) (sz : Nat) (ad : Nat → Nat → Nat) (ca0 : Nat → Nat) (hj : cd_inj ad ca0) (oq sgq sgv : Nat) (hE : cd_E E oq sgq sgv) (n : Nat) (σ0 : cd_S) (b0 : cd_B) (p : (Int32 × cd_S × cd_B)) (h : f_X4_variableKey n σ0 b0 = some (Sum.inl p)) : (p.2.2.1 ≤ b0.1 ∧ p.2.2.2 ≤ b0.2) ∧ Met l yX4_variableKey (Cond.code yX4_variableKey cX4_variableKey 2 (some .int) :: v_CLS) ({ frames := 13, cells := b0.1 - p.2.2.1, slots := b0.2 - p.2.2.2, locals := 222 }) (hp_Pc D vwCl (hp_Tl cA) E sz (cd_pic cA ad ca0 σ0) [.ref (ad 4 0)]) (hp_Qi D vwCl (hp_Tl cA) sz (cd_pic cA ad ca0 σ0) (fun r u => r = p.1 ∧ ∃ ca1, cd_inj ad ca1 ∧ u = cd_pic cA ad ca1 p.2.1)) (b0.1 - p.2.2.1) (b0.2 - p.2.2.2) (hp_A (cd_pic cA ad ca0 σ0) sz) := by
  obtain ⟨hm0, hn0, h⟩ := cd_cks h
  have hM0 : p.2.2.1 ≤ b0.1 ∧ p.2.2.2 ≤ b0.2 := ⟨hm0, hn0⟩
  refine ⟨hM0, ?_⟩
  refine hp_ofW (cc := cX4_variableKey) (maxL := 2) (ret := (some .int)) (by decide) rfl (Nat.le_of_ble_eq_true rfl) ?_
  intro pp ee ss mm bb mt cd ls cx hsz hw hl
  have hl : lv_has ls 2 [(0, .ref (ad 4 0))] := hl
  refine W.widen (k := b0.1 - b0.1) (n := b0.2 - b0.2) (Nat.zero_le _) (Nat.zero_le _) ?_
  have J22 : ∀ (ca : Nat → Nat) (hj : cd_inj ad ca) (σ : cd_S) (b : cd_B) (H : Heap) (locs : List Loc) (ls : Array Slot), b.1 ≤ b0.1 → b.2 ≤ b0.2 → p.2.2.1 ≤ b.1 → p.2.2.2 ≤ b.2 → f_X4_variableKey_J22 n σ b = some (Sum.inl p) → hp_w D vwCl (hp_Tl cA) E (hp_A (cd_pic cA ad ca0 σ0) sz) ss H locs (cd_pic cA ad ca σ) → lv_has ls 2 [(0, .ref (ad 4 0))] → W pp l ee ({ frames := 13, cells := b0.1 - p.2.2.1, slots := b0.2 - p.2.2.2, locals := 222 }) ss mm [.ref (ad 4 0)].toArray bb mt cd H locs (b0.1 - b.1) (b0.2 - b.2) (MQ bb (hp_Qi D vwCl (hp_Tl cA) sz (cd_pic cA ad ca0 σ0) (fun r u => r = p.1 ∧ ∃ ca1, cd_inj ad ca1 ∧ u = cd_pic cA ad ca1 p.2.1)) [.ref (ad 4 0)].toArray ss (b0.1 - p.2.2.1) (b0.2 - p.2.2.2) (hp_A (cd_pic cA ad ca0 σ0) sz)) (F0 mm 22 ls []) := by
    intro ca hj σ b H locs ls hb1 hb2 hf1 hf2 h hw hl
    refine lv_aload_n cx.1 cx.2.1 dX4_variableKey_22 rfl (lv_at hl 0 rfl) ?_
    refine lv_iconst (v := 3) cx.1 cx.2.1 dX4_variableKey_23 (by decide) ?_
    refine lv_aload_n cx.1 cx.2.1 dX4_variableKey_24 rfl (lv_at hl 0 rfl) ?_
    refine cd_gO (o2 := 10) (e2 := 0) (o := 4) (k := 0) (f := 128) hj cx hw hic4 rfl ⟨by decide, rfl, by decide, rfl⟩ rfl (by decide) ⟨rfl, rfl⟩ (List.mem_cons_of_mem _ cm_658) dX4_variableKey_25 ?_
    refine cd_gI (o := 10) (k := 9) (f := 329) hj cx hw hic10 rfl ⟨by decide, rfl, by decide, rfl⟩ rfl (by decide) (List.mem_cons_of_mem _ cm_659) dX4_variableKey_28 ?_
    obtain ⟨q1, e_q1, h⟩ := md_ob h
    obtain ⟨hm2, hn2, h⟩ := cd_cks h
    have hM2 : p.2.2.1 ≤ (Sum.elim (fun (p : Int32 × cd_S × cd_B) => p.2.2) (fun (t : cd_S × cd_B) => t.2) q1).1 ∧ p.2.2.2 ≤ (Sum.elim (fun (p : Int32 × cd_S × cd_B) => p.2.2) (fun (t : cd_S × cd_B) => t.2) q1).2 := ⟨hm2, hn2⟩
    cases q1 with
    | inr t1 =>
      exact nomatch Option.some.inj h
    | inl p1 =>
      have hle1 := (kc_X4_refuse l D cA E sz ad _ hj oq sgq sgv hE n σ b (3 : Int32) ((cI σ 329 0)) p1 e_q1).1
      have hM10002 : p.2.2.1 ≤ p1.2.2.1 ∧ p.2.2.2 ≤ p1.2.2.2 := hM2
      have h := cd_inl h
      refine hp_callVv (As := [.int 3, .int (cI σ 329 0)]) (rest := []) cx hw ((kc_X4_refuse l D cA E _ ad _ hj oq sgq sgv hE n σ b (3 : Int32) ((cI σ 329 0)) p1 e_q1).2) (cwV 2 cx.2.2.2.2.2.1 (cd_giV cm_660 cm_661 cm_662 cm_663 cm_664) rfl rfl rfl hdc_X4_refuse ⟨Nat.le_of_ble_eq_true rfl, Nat.le_of_ble_eq_true rfl⟩) (cd_atO hj (by decide) (by decide)) rfl rfl hl.1 rfl (Nat.le_of_ble_eq_true rfl) dX4_variableKey_31 ⟨by (try dsimp only); omega, by (try dsimp only); omega⟩ (fun u H locs hp hw => ?_)
      obtain ⟨ca, hj, rfl⟩ := hp
      refine W.widen (k := b0.1 - p1.2.2.1) (n := b0.2 - p1.2.2.2) (by omega) (by omega) ?_
      refine lv_iconst (v := (-1)) cx.1 cx.2.1 dX4_variableKey_34 (by decide) ?_
      exact hp_iret cx hw (cd_retb hj (congrArg some (Sum.inl.inj (Option.some.inj h)))) dX4_variableKey_35 (cd_le1 (congrArg some (Sum.inl.inj (Option.some.inj h)))) (cd_le2 (congrArg some (Sum.inl.inj (Option.some.inj h))))
  refine lv_aload_n cx.1 cx.2.1 dX4_variableKey_0 rfl (lv_at hl 0 rfl) ?_
  refine lv_aload_n cx.1 cx.2.1 dX4_variableKey_1 rfl (lv_at hl 0 rfl) ?_
  refine cd_gO (o2 := 10) (e2 := 0) (o := 4) (k := 0) (f := 128) hj cx hw hic4 rfl ⟨by decide, rfl, by decide, rfl⟩ rfl (by decide) ⟨rfl, rfl⟩ (List.mem_cons_of_mem _ cm_658) dX4_variableKey_2 ?_
  refine cd_gJ (o := 10) (k := 10) (f := 330) hj cx hw hic10 rfl ⟨by decide, rfl, by decide, rfl⟩ rfl (by decide) (List.mem_cons_of_mem _ cm_695) dX4_variableKey_5 ?_
  obtain ⟨p3, e_p3, h⟩ := md_ob h
  refine hp_callVi (As := [.long (cJ σ0 330 0)]) (rest := []) cx hw (kc_X4_findVariable l D cA E _ ad _ hj oq sgq sgv hE n σ0 ((cJ σ0 330 0)) p3 e_p3) (cwV 1 cx.2.2.2.2.2.1 (cd_giV cm_794 cm_795 cm_796 cm_663 cm_797) rfl rfl rfl hdc_X4_findVariable ⟨Nat.le_of_ble_eq_true rfl, Nat.le_of_ble_eq_true rfl⟩) (cd_atO hj (by decide) (by decide)) rfl rfl hl.1 rfl (Nat.le_of_ble_eq_true rfl) dX4_variableKey_8 ⟨by (try dsimp only); omega, by (try dsimp only); omega⟩ (fun r u H locs hp hw => ?_)
  obtain ⟨rfl, ca, hj, rfl⟩ := hp
  refine lv_istore_n (lv' := [(1, .int p3.1), (0, .ref (ad 4 0))]) cx.1 cx.2.1 dX4_variableKey_11 rfl hl (by decide) rfl (fun ls hl => ?_)
  refine lv_iload_n cx.1 cx.2.1 dX4_variableKey_12 rfl (lv_at hl 0 rfl) ?_
  refine lv_if_lt (tgt := 22) cx.1 cx.2.1 dX4_variableKey_13 (by decide) (fun c13 => ?_) (fun c13 => ?_)
  · have h := md_ip c13 h
    exact J22 _ hj p3.2 b0 _ _ _ (by omega) (by omega) (by omega) (by omega) h hw (lv_sub hl [1] rfl)
  · have h := md_in c13 h
    refine lv_iload_n cx.1 cx.2.1 dX4_variableKey_16 rfl (lv_at hl 0 rfl) ?_
    refine lv_bipush (v := 12) cx.1 cx.2.1 dX4_variableKey_17 (by decide) ?_
    refine lv_icmp_lt (tgt := 36) cx.1 cx.2.1 dX4_variableKey_19 (by decide) (fun c19 => ?_) (fun c19 => ?_)
    · have h := md_ip c19 h
      refine lv_aload_n cx.1 cx.2.1 dX4_variableKey_36 rfl (lv_at hl 1 rfl) ?_
      refine cd_gA (o := 4) (k := 5) (f := 133) hj cx hw hic4 rfl ⟨by decide, rfl, by decide, rfl⟩ rfl (by decide) (List.mem_cons_of_mem _ cm_789) dX4_variableKey_37 ?_
      refine lv_iload_n cx.1 cx.2.1 dX4_variableKey_40 rfl (lv_at hl 0 rfl) ?_
      obtain ⟨v4, e_v4, h⟩ := md_ob h
      refine cd_lI (f := 133) hj cx hw (by decide) (by decide) rfl e_v4 dX4_variableKey_41 ?_
      exact hp_iret cx hw (cd_retb hj (congrArg some (Sum.inl.inj (Option.some.inj h)))) dX4_variableKey_42 (cd_le1 (congrArg some (Sum.inl.inj (Option.some.inj h)))) (cd_le2 (congrArg some (Sum.inl.inj (Option.some.inj h))))
    · have h := md_in c19 h
      exact J22 _ hj p3.2 b0 _ _ _ (by omega) (by omega) (by omega) (by omega) h hw (lv_sub hl [1] rfl)
set_option maxHeartbeats 4000000 in
set_option maxRecDepth 100000 in
theorem kc_X4_readPlainAtom (l : Launch) (D : va_G) (cA : Nat → ClassId) (E : hp_N) (sz : Nat) (ad : Nat → Nat → Nat) (ca0 : Nat → Nat) (hj : cd_inj ad ca0) (oq sgq sgv : Nat) (hE : cd_E E oq sgq sgv) (n : Nat) (σ0 : cd_S) (b0 : cd_B) (p : (Int32 × cd_S × cd_B)) (h : f_X4_readPlainAtom n σ0 b0 = some (Sum.inl p)) : (p.2.2.1 ≤ b0.1 ∧ p.2.2.2 ≤ b0.2) ∧ Met l yX4_readPlainAtom (Cond.code yX4_readPlainAtom cX4_readPlainAtom 1 none :: v_CLS) ({ frames := 15, cells := b0.1 - p.2.2.1, slots := b0.2 - p.2.2.2, locals := 263 }) (hp_Pc D vwCl (hp_Tl cA) E sz (cd_pic cA ad ca0 σ0) [.ref (ad 4 0)]) (hp_Qv D vwCl (hp_Tl cA) sz (cd_pic cA ad ca0 σ0) (fun u => ∃ ca1, cd_inj ad ca1 ∧ u = cd_pic cA ad ca1 p.2.1)) (b0.1 - p.2.2.1) (b0.2 - p.2.2.2) (hp_A (cd_pic cA ad ca0 σ0) sz) := by
  obtain ⟨hm0, hn0, h⟩ := cd_cks h
  have hM0 : p.2.2.1 ≤ b0.1 ∧ p.2.2.2 ≤ b0.2 := ⟨hm0, hn0⟩
  refine ⟨hM0, ?_⟩
  refine hp_ofW (cc := cX4_readPlainAtom) (maxL := 1) (ret := none) (by decide) rfl (Nat.le_of_ble_eq_true rfl) ?_
  intro pp ee ss mm bb mt cd ls cx hsz hw hl
  have hl : lv_has ls 1 [(0, .ref (ad 4 0))] := hl
  refine W.widen (k := b0.1 - b0.1) (n := b0.2 - b0.2) (Nat.zero_le _) (Nat.zero_le _) ?_
  have J129 : ∀ (ca : Nat → Nat) (hj : cd_inj ad ca) (σ : cd_S) (b : cd_B) (H : Heap) (locs : List Loc) (ls : Array Slot), b.1 ≤ b0.1 → b.2 ≤ b0.2 → p.2.2.1 ≤ b.1 → p.2.2.2 ≤ b.2 → f_X4_readPlainAtom_J129 n σ b = some (Sum.inl p) → hp_w D vwCl (hp_Tl cA) E (hp_A (cd_pic cA ad ca0 σ0) sz) ss H locs (cd_pic cA ad ca σ) → lv_has ls 1 [(0, .ref (ad 4 0))] → W pp l ee ({ frames := 15, cells := b0.1 - p.2.2.1, slots := b0.2 - p.2.2.2, locals := 263 }) ss mm [.ref (ad 4 0)].toArray bb mt cd H locs (b0.1 - b.1) (b0.2 - b.2) (MQ bb (hp_Qv D vwCl (hp_Tl cA) sz (cd_pic cA ad ca0 σ0) (fun u => ∃ ca1, cd_inj ad ca1 ∧ u = cd_pic cA ad ca1 p.2.1)) [.ref (ad 4 0)].toArray ss (b0.1 - p.2.2.1) (b0.2 - p.2.2.2) (hp_A (cd_pic cA ad ca0 σ0) sz)) (F0 mm 129 ls []) := by
    intro ca hj σ b H locs ls hb1 hb2 hf1 hf2 h hw hl
    refine lv_aload_n cx.1 cx.2.1 dX4_readPlainAtom_129 rfl (lv_at hl 0 rfl) ?_
    refine cd_gO (o2 := 10) (e2 := 0) (o := 4) (k := 0) (f := 128) hj cx hw hic4 rfl ⟨by decide, rfl, by decide, rfl⟩ rfl (by decide) ⟨rfl, rfl⟩ (List.mem_cons_of_mem _ cm_658) dX4_readPlainAtom_130 ?_
    obtain ⟨p1, e_p1, h⟩ := md_ob h
    refine hp_callVv (As := []) (rest := []) cx hw (kc_X10_advance l D cA E _ ad _ hj oq sgq sgv hE n σ  p1 e_p1) (cwV 0 cx.2.2.2.2.2.1 (cd_giV cm_670 cm_671 cm_672 cm_301 cm_673) rfl rfl rfl hdc_X10_advance ⟨Nat.le_of_ble_eq_true rfl, Nat.le_of_ble_eq_true rfl⟩) (cd_atO hj (by decide) (by decide)) rfl rfl hl.1 rfl (Nat.le_of_ble_eq_true rfl) dX4_readPlainAtom_133 ⟨by (try dsimp only); omega, by (try dsimp only); omega⟩ (fun u H locs hp hw => ?_)
    obtain ⟨ca, hj, rfl⟩ := hp
    exact hp_vret cx hw ((cd_retb hj (congrArg some (Sum.inl.inj (Option.some.inj h)))).2) dX4_readPlainAtom_136 (cd_le1 (congrArg some (Sum.inl.inj (Option.some.inj h)))) (cd_le2 (congrArg some (Sum.inl.inj (Option.some.inj h))))
  refine lv_aload_n cx.1 cx.2.1 dX4_readPlainAtom_0 rfl (lv_at hl 0 rfl) ?_
  obtain ⟨q2, e_q2, h⟩ := md_ob h
  obtain ⟨hm3, hn3, h⟩ := cd_cks h
  have hM3 : p.2.2.1 ≤ (Sum.elim (fun (p : Int32 × cd_S × cd_B) => p.2.2) (fun (t : cd_S × cd_B) => t.2) q2).1 ∧ p.2.2.2 ≤ (Sum.elim (fun (p : Int32 × cd_S × cd_B) => p.2.2) (fun (t : cd_S × cd_B) => t.2) q2).2 := ⟨hm3, hn3⟩
  cases q2 with
  | inr t2 =>
    exact nomatch Option.some.inj h
  | inl p2 =>
    have hle2 := (kc_X4_part l D cA E sz ad _ hj oq sgq sgv hE n σ0 b0  p2 e_q2).1
    have hM10003 : p.2.2.1 ≤ p2.2.2.1 ∧ p.2.2.2 ≤ p2.2.2.2 := hM3
    have h := cd_inl h
    refine hp_callVv (As := []) (rest := []) cx hw ((kc_X4_part l D cA E _ ad _ hj oq sgq sgv hE n σ0 b0  p2 e_q2).2) (cwV 0 cx.2.2.2.2.2.1 (cd_giV cm_764 cm_765 cm_766 cm_663 cm_767) rfl rfl rfl hdc_X4_part ⟨Nat.le_of_ble_eq_true rfl, Nat.le_of_ble_eq_true rfl⟩) (cd_atO hj (by decide) (by decide)) rfl rfl hl.1 rfl (Nat.le_of_ble_eq_true rfl) dX4_readPlainAtom_1 ⟨by (try dsimp only); omega, by (try dsimp only); omega⟩ (fun u H locs hp hw => ?_)
    obtain ⟨ca, hj, rfl⟩ := hp
    refine W.widen (k := b0.1 - p2.2.2.1) (n := b0.2 - p2.2.2.2) (by omega) (by omega) ?_
    refine lv_aload_n cx.1 cx.2.1 dX4_readPlainAtom_4 rfl (lv_at hl 0 rfl) ?_
    refine cd_gO (o2 := 10) (e2 := 0) (o := 4) (k := 0) (f := 128) hj cx hw hic4 rfl ⟨by decide, rfl, by decide, rfl⟩ rfl (by decide) ⟨rfl, rfl⟩ (List.mem_cons_of_mem _ cm_658) dX4_readPlainAtom_5 ?_
    refine cd_gI (o := 10) (k := 8) (f := 328) hj cx hw hic10 rfl ⟨by decide, rfl, by decide, rfl⟩ rfl (by decide) (List.mem_cons_of_mem _ cm_665) dX4_readPlainAtom_8 ?_
    by_cases c11_3 : (cI p2.2.1 328 0) = 3
    · refine lv_lookup (off := 41) (tgt := 52) cx.1 cx.2.1 dX4_readPlainAtom_11 (by decide) (by rw [c11_3]; decide) (by decide) ?_
      have h := md_ip c11_3 h
      refine lv_aload_n cx.1 cx.2.1 dX4_readPlainAtom_52 rfl (lv_at hl 0 rfl) ?_
      obtain ⟨u4, e_u4, h⟩ := md_ob h
      have hb_u4 : u4 < 60 := (cd_dps e_u4).2
      refine cd_gP (o2 := 9) (u := u4) (o := 4) (k := 8) (f := 136) hj cx hw hic4 rfl ⟨by decide, rfl, by decide, rfl⟩ rfl (by decide) rfl e_u4 (List.mem_cons_of_mem _ cm_749) dX4_readPlainAtom_53 ?_
      refine lv_iconst (v := 0) cx.1 cx.2.1 dX4_readPlainAtom_56 (by decide) ?_
      refine lv_aload_n cx.1 cx.2.1 dX4_readPlainAtom_57 rfl (lv_at hl 0 rfl) ?_
      refine cd_gO (o2 := 2) (e2 := 0) (o := 4) (k := 1) (f := 129) hj cx hw hic4 rfl ⟨by decide, rfl, by decide, rfl⟩ rfl (by decide) ⟨rfl, rfl⟩ (List.mem_cons_of_mem _ cm_722) dX4_readPlainAtom_58 ?_
      refine lv_aload_n cx.1 cx.2.1 dX4_readPlainAtom_61 rfl (lv_at hl 0 rfl) ?_
      refine cd_gO (o2 := 10) (e2 := 0) (o := 4) (k := 0) (f := 128) hj cx hw hic4 rfl ⟨by decide, rfl, by decide, rfl⟩ rfl (by decide) ⟨rfl, rfl⟩ (List.mem_cons_of_mem _ cm_658) dX4_readPlainAtom_62 ?_
      refine cd_gJ (o := 10) (k := 10) (f := 330) hj cx hw hic10 rfl ⟨by decide, rfl, by decide, rfl⟩ rfl (by decide) (List.mem_cons_of_mem _ cm_695) dX4_readPlainAtom_65 ?_
      refine lv_l2i (v := ((cJ p2.2.1 330 0).toInt32)) cx.1 cx.2.1 dX4_readPlainAtom_68 rfl ?_
      obtain ⟨p5, e_p5, h⟩ := md_ob h
      refine hp_callVi (As := [.int ((cJ p2.2.1 330 0).toInt32)]) (rest := [.int 0, .ref (ad 9 u4)]) cx hw (kc_X2_numberIndex l D cA E _ ad _ hj oq sgq sgv hE n p2.2.1 (((cJ p2.2.1 330 0).toInt32)) p5 e_p5) (cwV 1 cx.2.2.2.2.2.1 (cd_giV cm_832 cm_833 cm_834 cm_167 cm_835) rfl rfl rfl hdc_X2_numberIndex ⟨Nat.le_of_ble_eq_true rfl, Nat.le_of_ble_eq_true rfl⟩) (cd_atO hj (by decide) (by decide)) rfl rfl hl.1 rfl (Nat.le_of_ble_eq_true rfl) dX4_readPlainAtom_69 ⟨by (try dsimp only); omega, by (try dsimp only); omega⟩ (fun r u H locs hp hw => ?_)
      obtain ⟨rfl, ca, hj, rfl⟩ := hp
      refine lv_iconst (v := 0) cx.1 cx.2.1 dX4_readPlainAtom_72 (by decide) ?_
      obtain ⟨p6, e_p6, h⟩ := md_ob h
      obtain ⟨hm7, hn7, h⟩ := cd_cks h
      have hM7 : p.2.2.1 ≤ p6.2.2.1 ∧ p.2.2.2 ≤ p6.2.2.2 := ⟨hm7, hn7⟩
      have hle6 := (kc_X9_emit l D cA E sz ad _ hj oq sgq sgv hE n p5.2 (p2.2.2) u4 (0 : Int32) (p5.1) (0 : Int32) (show _ < 60 by omega) p6 e_p6).1
      refine hp_callVv (As := [.int 0, .int p5.1, .int 0]) (rest := []) cx hw ((kc_X9_emit l D cA E _ ad _ hj oq sgq sgv hE n p5.2 (p2.2.2) u4 (0 : Int32) (p5.1) (0 : Int32) (show _ < 60 by omega) p6 e_p6).2) (cwV 3 cx.2.2.2.2.2.1 (cd_giV cm_781 cm_782 cm_783 cm_114 cm_784) rfl rfl rfl hdc_X9_emit ⟨Nat.le_of_ble_eq_true rfl, Nat.le_of_ble_eq_true rfl⟩) (cd_atO hj (by decide) (show _ < 60 by omega)) rfl rfl hl.1 rfl (Nat.le_of_ble_eq_true rfl) dX4_readPlainAtom_73 ⟨by (try dsimp only); omega, by (try dsimp only); omega⟩ (fun u H locs hp hw => ?_)
      obtain ⟨ca, hj, rfl⟩ := hp
      refine W.widen (k := b0.1 - p6.2.2.1) (n := b0.2 - p6.2.2.2) (by omega) (by omega) ?_
      refine lv_goto (tgt := 129) cx.1 cx.2.1 dX4_readPlainAtom_76 (by decide) ?_
      exact J129 _ hj p6.2.1 (p6.2.2) _ _ _ (by omega) (by omega) (by omega) (by omega) h hw (lv_sub hl [0] rfl)
    have h := md_in c11_3 h
    by_cases c11_224 : (cI p2.2.1 328 0) = 224
    · refine lv_lookup (off := 68) (tgt := 79) cx.1 cx.2.1 dX4_readPlainAtom_11 (by decide) (by rw [c11_224]; decide) (by decide) ?_
      have h := md_ip c11_224 h
      refine lv_aload_n cx.1 cx.2.1 dX4_readPlainAtom_79 rfl (lv_at hl 0 rfl) ?_
      obtain ⟨u8, e_u8, h⟩ := md_ob h
      have hb_u8 : u8 < 60 := (cd_dps e_u8).2
      refine cd_gP (o2 := 9) (u := u8) (o := 4) (k := 8) (f := 136) hj cx hw hic4 rfl ⟨by decide, rfl, by decide, rfl⟩ rfl (by decide) rfl e_u8 (List.mem_cons_of_mem _ cm_749) dX4_readPlainAtom_80 ?_
      refine lv_iconst (v := 1) cx.1 cx.2.1 dX4_readPlainAtom_83 (by decide) ?_
      refine lv_iconst (v := 0) cx.1 cx.2.1 dX4_readPlainAtom_84 (by decide) ?_
      refine lv_iconst (v := 0) cx.1 cx.2.1 dX4_readPlainAtom_85 (by decide) ?_
      obtain ⟨p9, e_p9, h⟩ := md_ob h
      obtain ⟨hm10, hn10, h⟩ := cd_cks h
      have hM10 : p.2.2.1 ≤ p9.2.2.1 ∧ p.2.2.2 ≤ p9.2.2.2 := ⟨hm10, hn10⟩
      have hle9 := (kc_X9_emit l D cA E sz ad _ hj oq sgq sgv hE n p2.2.1 (p2.2.2) u8 (1 : Int32) (0 : Int32) (0 : Int32) (show _ < 60 by omega) p9 e_p9).1
      refine hp_callVv (As := [.int 1, .int 0, .int 0]) (rest := []) cx hw ((kc_X9_emit l D cA E _ ad _ hj oq sgq sgv hE n p2.2.1 (p2.2.2) u8 (1 : Int32) (0 : Int32) (0 : Int32) (show _ < 60 by omega) p9 e_p9).2) (cwV 3 cx.2.2.2.2.2.1 (cd_giV cm_781 cm_782 cm_783 cm_114 cm_784) rfl rfl rfl hdc_X9_emit ⟨Nat.le_of_ble_eq_true rfl, Nat.le_of_ble_eq_true rfl⟩) (cd_atO hj (by decide) (show _ < 60 by omega)) rfl rfl hl.1 rfl (Nat.le_of_ble_eq_true rfl) dX4_readPlainAtom_86 ⟨by (try dsimp only); omega, by (try dsimp only); omega⟩ (fun u H locs hp hw => ?_)
      obtain ⟨ca, hj, rfl⟩ := hp
      refine W.widen (k := b0.1 - p9.2.2.1) (n := b0.2 - p9.2.2.2) (by omega) (by omega) ?_
      refine lv_goto (tgt := 129) cx.1 cx.2.1 dX4_readPlainAtom_89 (by decide) ?_
      exact J129 _ hj p9.2.1 (p9.2.2) _ _ _ (by omega) (by omega) (by omega) (by omega) h hw (lv_sub hl [0] rfl)
    have h := md_in c11_224 h
    by_cases c11_225 : (cI p2.2.1 328 0) = 225
    · refine lv_lookup (off := 81) (tgt := 92) cx.1 cx.2.1 dX4_readPlainAtom_11 (by decide) (by rw [c11_225]; decide) (by decide) ?_
      have h := md_ip c11_225 h
      refine lv_aload_n cx.1 cx.2.1 dX4_readPlainAtom_92 rfl (lv_at hl 0 rfl) ?_
      refine lv_aload_n cx.1 cx.2.1 dX4_readPlainAtom_93 rfl (lv_at hl 0 rfl) ?_
      obtain ⟨u11, e_u11, h⟩ := md_ob h
      have hb_u11 : u11 < 60 := (cd_dps e_u11).2
      refine cd_gP (o2 := 9) (u := u11) (o := 4) (k := 7) (f := 135) hj cx hw hic4 rfl ⟨by decide, rfl, by decide, rfl⟩ rfl (by decide) rfl e_u11 (List.mem_cons_of_mem _ cm_836) dX4_readPlainAtom_94 ?_
      refine lv_iconst (v := 0) cx.1 cx.2.1 dX4_readPlainAtom_97 (by decide) ?_
      obtain ⟨p12, e_p12, h⟩ := md_ob h
      refine hp_callVi (As := [.int 0]) (rest := [.ref (ad 4 0)]) cx hw (kc_X9_ownKey l D cA E _ ad _ hj oq sgq sgv hE n p2.2.1 u11 (0 : Int32) (show _ < 60 by omega) p12 e_p12) (cwV 1 cx.2.2.2.2.2.1 (cd_giV cm_837 cm_791 cm_792 cm_114 cm_793) rfl rfl rfl hdc_X9_ownKey ⟨Nat.le_of_ble_eq_true rfl, Nat.le_of_ble_eq_true rfl⟩) (cd_atO hj (by decide) (show _ < 60 by omega)) rfl rfl hl.1 rfl (Nat.le_of_ble_eq_true rfl) dX4_readPlainAtom_98 ⟨by (try dsimp only); omega, by (try dsimp only); omega⟩ (fun r u H locs hp hw => ?_)
      obtain ⟨rfl, ca, hj, rfl⟩ := hp
      obtain ⟨p13, e_p13, h⟩ := md_ob h
      obtain ⟨hm14, hn14, h⟩ := cd_cks h
      have hM14 : p.2.2.1 ≤ p13.2.2.1 ∧ p.2.2.2 ≤ p13.2.2.2 := ⟨hm14, hn14⟩
      have hle13 := (kc_X4_getVariable l D cA E sz ad _ hj oq sgq sgv hE n p12.2 (p2.2.2) (p12.1) p13 e_p13).1
      refine hp_callVv (As := [.int p12.1]) (rest := []) cx hw ((kc_X4_getVariable l D cA E _ ad _ hj oq sgq sgv hE n p12.2 (p2.2.2) (p12.1) p13 e_p13).2) (cwV 1 cx.2.2.2.2.2.1 (cd_giV cm_838 cm_839 cm_840 cm_663 cm_841) rfl rfl rfl hdc_X4_getVariable ⟨Nat.le_of_ble_eq_true rfl, Nat.le_of_ble_eq_true rfl⟩) (cd_atO hj (by decide) (by decide)) rfl rfl hl.1 rfl (Nat.le_of_ble_eq_true rfl) dX4_readPlainAtom_101 ⟨by (try dsimp only); omega, by (try dsimp only); omega⟩ (fun u H locs hp hw => ?_)
      obtain ⟨ca, hj, rfl⟩ := hp
      refine W.widen (k := b0.1 - p13.2.2.1) (n := b0.2 - p13.2.2.2) (by omega) (by omega) ?_
      refine lv_goto (tgt := 129) cx.1 cx.2.1 dX4_readPlainAtom_104 (by decide) ?_
      exact J129 _ hj p13.2.1 (p13.2.2) _ _ _ (by omega) (by omega) (by omega) (by omega) h hw (lv_sub hl [0] rfl)
    have h := md_in c11_225 h
    by_cases c11_226 : (cI p2.2.1 328 0) = 226
    · refine lv_lookup (off := 96) (tgt := 107) cx.1 cx.2.1 dX4_readPlainAtom_11 (by decide) (by rw [c11_226]; decide) (by decide) ?_
      have h := md_ip c11_226 h
      refine lv_aload_n cx.1 cx.2.1 dX4_readPlainAtom_107 rfl (lv_at hl 0 rfl) ?_
      obtain ⟨u15, e_u15, h⟩ := md_ob h
      have hb_u15 : u15 < 60 := (cd_dps e_u15).2
      refine cd_gP (o2 := 9) (u := u15) (o := 4) (k := 8) (f := 136) hj cx hw hic4 rfl ⟨by decide, rfl, by decide, rfl⟩ rfl (by decide) rfl e_u15 (List.mem_cons_of_mem _ cm_749) dX4_readPlainAtom_108 ?_
      refine lv_bipush (v := 27) cx.1 cx.2.1 dX4_readPlainAtom_111 (by decide) ?_
      refine lv_iconst (v := 0) cx.1 cx.2.1 dX4_readPlainAtom_113 (by decide) ?_
      refine lv_iconst (v := 0) cx.1 cx.2.1 dX4_readPlainAtom_114 (by decide) ?_
      obtain ⟨p16, e_p16, h⟩ := md_ob h
      obtain ⟨hm17, hn17, h⟩ := cd_cks h
      have hM17 : p.2.2.1 ≤ p16.2.2.1 ∧ p.2.2.2 ≤ p16.2.2.2 := ⟨hm17, hn17⟩
      have hle16 := (kc_X9_emit l D cA E sz ad _ hj oq sgq sgv hE n p2.2.1 (p2.2.2) u15 (27 : Int32) (0 : Int32) (0 : Int32) (show _ < 60 by omega) p16 e_p16).1
      refine hp_callVv (As := [.int 27, .int 0, .int 0]) (rest := []) cx hw ((kc_X9_emit l D cA E _ ad _ hj oq sgq sgv hE n p2.2.1 (p2.2.2) u15 (27 : Int32) (0 : Int32) (0 : Int32) (show _ < 60 by omega) p16 e_p16).2) (cwV 3 cx.2.2.2.2.2.1 (cd_giV cm_781 cm_782 cm_783 cm_114 cm_784) rfl rfl rfl hdc_X9_emit ⟨Nat.le_of_ble_eq_true rfl, Nat.le_of_ble_eq_true rfl⟩) (cd_atO hj (by decide) (show _ < 60 by omega)) rfl rfl hl.1 rfl (Nat.le_of_ble_eq_true rfl) dX4_readPlainAtom_115 ⟨by (try dsimp only); omega, by (try dsimp only); omega⟩ (fun u H locs hp hw => ?_)
      obtain ⟨ca, hj, rfl⟩ := hp
      refine W.widen (k := b0.1 - p16.2.2.1) (n := b0.2 - p16.2.2.2) (by omega) (by omega) ?_
      refine lv_goto (tgt := 129) cx.1 cx.2.1 dX4_readPlainAtom_118 (by decide) ?_
      exact J129 _ hj p16.2.1 (p16.2.2) _ _ _ (by omega) (by omega) (by omega) (by omega) h hw (lv_sub hl [0] rfl)
    have h := md_in c11_226 h
    refine lv_lookup (off := 110) (tgt := 121) cx.1 cx.2.1 dX4_readPlainAtom_11 (by decide) ((lv_osw c11_3 (by decide)).trans ((lv_osw c11_224 (by decide)).trans ((lv_osw c11_225 (by decide)).trans ((lv_osw c11_226 (by decide)).trans rfl)))) (by decide) ?_
    refine lv_aload_n cx.1 cx.2.1 dX4_readPlainAtom_121 rfl (lv_at hl 0 rfl) ?_
    refine lv_aload_n cx.1 cx.2.1 dX4_readPlainAtom_122 rfl (lv_at hl 0 rfl) ?_
    obtain ⟨q18, e_q18, h⟩ := md_ob h
    obtain ⟨hm19, hn19, h⟩ := cd_cks h
    have hM19 : p.2.2.1 ≤ (Sum.elim (fun (p : Int32 × cd_S × cd_B) => p.2.2) (fun (t : cd_S × cd_B) => t.2) q18).1 ∧ p.2.2.2 ≤ (Sum.elim (fun (p : Int32 × cd_S × cd_B) => p.2.2) (fun (t : cd_S × cd_B) => t.2) q18).2 := ⟨hm19, hn19⟩
    cases q18 with
    | inr t18 =>
      exact nomatch Option.some.inj h
    | inl p18 =>
      have hle18 := (kc_X4_variableKey l D cA E sz ad _ hj oq sgq sgv hE n p2.2.1 (p2.2.2)  p18 e_q18).1
      have hM10019 : p.2.2.1 ≤ p18.2.2.1 ∧ p.2.2.2 ≤ p18.2.2.2 := hM19
      have h := cd_inl h
      refine hp_callVi (As := []) (rest := [.ref (ad 4 0)]) cx hw ((kc_X4_variableKey l D cA E _ ad _ hj oq sgq sgv hE n p2.2.1 (p2.2.2)  p18 e_q18).2) (cwV 0 cx.2.2.2.2.2.1 (cd_giV cm_842 cm_843 cm_844 cm_663 cm_845) rfl rfl rfl hdc_X4_variableKey ⟨Nat.le_of_ble_eq_true rfl, Nat.le_of_ble_eq_true rfl⟩) (cd_atO hj (by decide) (by decide)) rfl rfl hl.1 rfl (Nat.le_of_ble_eq_true rfl) dX4_readPlainAtom_123 ⟨by (try dsimp only); omega, by (try dsimp only); omega⟩ (fun r u H locs hp hw => ?_)
      obtain ⟨rfl, ca, hj, rfl⟩ := hp
      refine W.widen (k := b0.1 - p18.2.2.1) (n := b0.2 - p18.2.2.2) (by omega) (by omega) ?_
      obtain ⟨p20, e_p20, h⟩ := md_ob h
      obtain ⟨hm21, hn21, h⟩ := cd_cks h
      have hM21 : p.2.2.1 ≤ p20.2.2.1 ∧ p.2.2.2 ≤ p20.2.2.2 := ⟨hm21, hn21⟩
      have hle20 := (kc_X4_getVariable l D cA E sz ad _ hj oq sgq sgv hE n p18.2.1 (p18.2.2) (p18.1) p20 e_p20).1
      refine hp_callVv (As := [.int p18.1]) (rest := []) cx hw ((kc_X4_getVariable l D cA E _ ad _ hj oq sgq sgv hE n p18.2.1 (p18.2.2) (p18.1) p20 e_p20).2) (cwV 1 cx.2.2.2.2.2.1 (cd_giV cm_838 cm_839 cm_840 cm_663 cm_841) rfl rfl rfl hdc_X4_getVariable ⟨Nat.le_of_ble_eq_true rfl, Nat.le_of_ble_eq_true rfl⟩) (cd_atO hj (by decide) (by decide)) rfl rfl hl.1 rfl (Nat.le_of_ble_eq_true rfl) dX4_readPlainAtom_126 ⟨by (try dsimp only); omega, by (try dsimp only); omega⟩ (fun u H locs hp hw => ?_)
      obtain ⟨ca, hj, rfl⟩ := hp
      refine W.widen (k := b0.1 - p20.2.2.1) (n := b0.2 - p20.2.2.2) (by omega) (by omega) ?_
      exact J129 _ hj p20.2.1 (p20.2.2) _ _ _ (by omega) (by omega) (by omega) (by omega) h hw (lv_sub hl [0] rfl)
set_option maxHeartbeats 4000000 in
set_option maxRecDepth 100000 in
theorem kc_X4_readAtom (l : Launch) (D : va_G) (cA : Nat → ClassId) (E : hp_N) (sz : Nat) (ad : Nat → Nat → Nat) (ca0 : Nat → Nat) (hj : cd_inj ad ca0) (oq sgq sgv : Nat) (hE : cd_E E oq sgq sgv) (n d : Nat) (rec : cd_R) (in19 : ∀ (sz : Nat) (ca : Nat → Nat) (_ : cd_inj ad ca) (σ : cd_S) (b : cd_B) (a1 : Int32) (a2 : Int32) (p : Int32 × cd_S × cd_B), rec 19 0 a1 a2 σ b = some (Sum.inl p) → (p.2.2.1 ≤ b.1 ∧ p.2.2.2 ≤ b.2) ∧ Met l yX4_readAsking (Cond.code yX4_readAsking cX4_readAsking 4 none :: v_CLS) ({ frames := d + 16, cells := b.1 - p.2.2.1, slots := b.2 - p.2.2.2, locals := 26 * d + 286 }) (hp_Pc D vwCl (hp_Tl cA) E sz (cd_pic cA ad ca σ) [.ref (ad 4 0), .int a1, .int a2]) (hp_Qv D vwCl (hp_Tl cA) sz (cd_pic cA ad ca σ) (fun u => ∃ ca1, cd_inj ad ca1 ∧ u = cd_pic cA ad ca1 p.2.1)) (b.1 - p.2.2.1) (b.2 - p.2.2.2) (hp_A (cd_pic cA ad ca σ) sz)) (in0 : ∀ (sz : Nat) (ca : Nat → Nat) (_ : cd_inj ad ca) (σ : cd_S) (b : cd_B) (a1 : Int32) (p : Int32 × cd_S × cd_B), rec 0 0 a1 0 σ b = some (Sum.inl p) → (p.2.2.1 ≤ b.1 ∧ p.2.2.2 ≤ b.2) ∧ Met l yX4_readExpression (Cond.code yX4_readExpression cX4_readExpression 2 none :: v_CLS) ({ frames := d + 16, cells := b.1 - p.2.2.1, slots := b.2 - p.2.2.2, locals := 26 * d + 286 }) (hp_Pc D vwCl (hp_Tl cA) E sz (cd_pic cA ad ca σ) [.ref (ad 4 0), .int a1]) (hp_Qv D vwCl (hp_Tl cA) sz (cd_pic cA ad ca σ) (fun u => ∃ ca1, cd_inj ad ca1 ∧ u = cd_pic cA ad ca1 p.2.1)) (b.1 - p.2.2.1) (b.2 - p.2.2.2) (hp_A (cd_pic cA ad ca σ) sz)) (in17 : ∀ (sz : Nat) (ca : Nat → Nat) (_ : cd_inj ad ca) (σ : cd_S) (b : cd_B) (a1 : Int32) (p : Int32 × cd_S × cd_B), rec 17 0 a1 0 σ b = some (Sum.inl p) → (p.2.2.1 ≤ b.1 ∧ p.2.2.2 ≤ b.2) ∧ Met l yX4_readFun (Cond.code yX4_readFun cX4_readFun 4 none :: v_CLS) ({ frames := d + 16, cells := b.1 - p.2.2.1, slots := b.2 - p.2.2.2, locals := 26 * d + 286 }) (hp_Pc D vwCl (hp_Tl cA) E sz (cd_pic cA ad ca σ) [.ref (ad 4 0), .int a1]) (hp_Qv D vwCl (hp_Tl cA) sz (cd_pic cA ad ca σ) (fun u => ∃ ca1, cd_inj ad ca1 ∧ u = cd_pic cA ad ca1 p.2.1)) (b.1 - p.2.2.1) (b.2 - p.2.2.2) (hp_A (cd_pic cA ad ca σ) sz)) (in18 : ∀ (sz : Nat) (ca : Nat → Nat) (_ : cd_inj ad ca) (σ : cd_S) (b : cd_B) (a1 : Int32) (p : Int32 × cd_S × cd_B), rec 18 0 a1 0 σ b = some (Sum.inl p) → (p.2.2.1 ≤ b.1 ∧ p.2.2.2 ≤ b.2) ∧ Met l yX4_readRow (Cond.code yX4_readRow cX4_readRow 3 none :: v_CLS) ({ frames := d + 16, cells := b.1 - p.2.2.1, slots := b.2 - p.2.2.2, locals := 26 * d + 286 }) (hp_Pc D vwCl (hp_Tl cA) E sz (cd_pic cA ad ca σ) [.ref (ad 4 0), .int a1]) (hp_Qv D vwCl (hp_Tl cA) sz (cd_pic cA ad ca σ) (fun u => ∃ ca1, cd_inj ad ca1 ∧ u = cd_pic cA ad ca1 p.2.1)) (b.1 - p.2.2.1) (b.2 - p.2.2.2) (hp_A (cd_pic cA ad ca σ) sz)) (σ0 : cd_S) (b0 : cd_B) (a1 : Int32) (p : (Int32 × cd_S × cd_B)) (h : f_X4_readAtom n rec σ0 b0 a1 = some (Sum.inl p)) : (p.2.2.1 ≤ b0.1 ∧ p.2.2.2 ≤ b0.2) ∧ Met l yX4_readAtom (Cond.code yX4_readAtom cX4_readAtom 2 none :: v_CLS) ({ frames := (d + 1) + 16, cells := b0.1 - p.2.2.1, slots := b0.2 - p.2.2.2, locals := 26 * (d + 1) + 286 }) (hp_Pc D vwCl (hp_Tl cA) E sz (cd_pic cA ad ca0 σ0) [.ref (ad 4 0), .int a1]) (hp_Qv D vwCl (hp_Tl cA) sz (cd_pic cA ad ca0 σ0) (fun u => ∃ ca1, cd_inj ad ca1 ∧ u = cd_pic cA ad ca1 p.2.1)) (b0.1 - p.2.2.1) (b0.2 - p.2.2.2) (hp_A (cd_pic cA ad ca0 σ0) sz) := by
  obtain ⟨hm0, hn0, h⟩ := cd_cks h
  have hM0 : p.2.2.1 ≤ b0.1 ∧ p.2.2.2 ≤ b0.2 := ⟨hm0, hn0⟩
  refine ⟨hM0, ?_⟩
  refine hp_ofW (cc := cX4_readAtom) (maxL := 2) (ret := none) (by decide) rfl (Nat.le_of_ble_eq_true rfl) ?_
  intro pp ee ss mm bb mt cd ls cx hsz hw hl
  have hl : lv_has ls 2 [(0, .ref (ad 4 0)), (1, .int a1)] := hl
  refine W.widen (k := b0.1 - b0.1) (n := b0.2 - b0.2) (Nat.zero_le _) (Nat.zero_le _) ?_
  refine lv_aload_n cx.1 cx.2.1 dX4_readAtom_0 rfl (lv_at hl 0 rfl) ?_
  refine cd_gO (o2 := 10) (e2 := 0) (o := 4) (k := 0) (f := 128) hj cx hw hic4 rfl ⟨by decide, rfl, by decide, rfl⟩ rfl (by decide) ⟨rfl, rfl⟩ (List.mem_cons_of_mem _ cm_658) dX4_readAtom_1 ?_
  refine cd_gI (o := 10) (k := 8) (f := 328) hj cx hw hic10 rfl ⟨by decide, rfl, by decide, rfl⟩ rfl (by decide) (List.mem_cons_of_mem _ cm_665) dX4_readAtom_4 ?_
  by_cases c7_40 : (cI σ0 328 0) = 40
  · refine lv_lookup (off := 65) (tgt := 72) cx.1 cx.2.1 dX4_readAtom_7 (by decide) (by rw [c7_40]; decide) (by decide) ?_
    have h := md_ip c7_40 h
    refine lv_aload_n cx.1 cx.2.1 dX4_readAtom_72 rfl (lv_at hl 0 rfl) ?_
    refine cd_gO (o2 := 10) (e2 := 0) (o := 4) (k := 0) (f := 128) hj cx hw hic4 rfl ⟨by decide, rfl, by decide, rfl⟩ rfl (by decide) ⟨rfl, rfl⟩ (List.mem_cons_of_mem _ cm_658) dX4_readAtom_73 ?_
    obtain ⟨p1, e_p1, h⟩ := md_ob h
    refine hp_callVv (As := []) (rest := []) cx hw (kc_X10_advance l D cA E _ ad _ hj oq sgq sgv hE n σ0  p1 e_p1) (cwV 0 cx.2.2.2.2.2.1 (cd_giV cm_670 cm_671 cm_672 cm_301 cm_673) rfl rfl rfl hdc_X10_advance ⟨by (try dsimp only); omega, by (try dsimp only); omega⟩) (cd_atO hj (by decide) (by decide)) rfl rfl hl.1 rfl (Nat.le_of_ble_eq_true rfl) dX4_readAtom_76 ⟨by (try dsimp only); omega, by (try dsimp only); omega⟩ (fun u H locs hp hw => ?_)
    obtain ⟨ca, hj, rfl⟩ := hp
    refine lv_aload_n cx.1 cx.2.1 dX4_readAtom_79 rfl (lv_at hl 0 rfl) ?_
    refine lv_iload_n cx.1 cx.2.1 dX4_readAtom_80 rfl (lv_at hl 1 rfl) ?_
    refine lv_iconst (v := 1) cx.1 cx.2.1 dX4_readAtom_81 (by decide) ?_
    refine lv_iadd cx.1 cx.2.1 dX4_readAtom_82 ?_
    obtain ⟨q2, e_q2, h⟩ := md_ob h
    obtain ⟨hm3, hn3, h⟩ := cd_cks h
    have hM3 : p.2.2.1 ≤ (Sum.elim (fun (p : Int32 × cd_S × cd_B) => p.2.2) (fun (t : cd_S × cd_B) => t.2) q2).1 ∧ p.2.2.2 ≤ (Sum.elim (fun (p : Int32 × cd_S × cd_B) => p.2.2) (fun (t : cd_S × cd_B) => t.2) q2).2 := ⟨hm3, hn3⟩
    cases q2 with
    | inr t2 =>
      exact nomatch Option.some.inj h
    | inl p2 =>
      have hle2 := (in0 sz _ hj p1.2 b0 ((a1 + 1)) p2 e_q2).1
      have hM10003 : p.2.2.1 ≤ p2.2.2.1 ∧ p.2.2.2 ≤ p2.2.2.2 := hM3
      have h := cd_inl h
      refine hp_callVv (As := [.int (a1 + 1)]) (rest := []) cx hw ((in0 _ _ hj p1.2 b0 ((a1 + 1)) p2 e_q2).2) (cwV 1 cx.2.2.2.2.2.1 (cd_giV cm_760 cm_761 cm_762 cm_663 cm_763) rfl rfl rfl hdc_X4_readExpression ⟨by (try dsimp only); omega, by (try dsimp only); omega⟩) (cd_atO hj (by decide) (by decide)) rfl rfl hl.1 rfl (Nat.le_of_ble_eq_true rfl) dX4_readAtom_83 ⟨by (try dsimp only); omega, by (try dsimp only); omega⟩ (fun u H locs hp hw => ?_)
      obtain ⟨ca, hj, rfl⟩ := hp
      refine W.widen (k := b0.1 - p2.2.2.1) (n := b0.2 - p2.2.2.2) (by omega) (by omega) ?_
      refine lv_aload_n cx.1 cx.2.1 dX4_readAtom_86 rfl (lv_at hl 0 rfl) ?_
      refine lv_bipush (v := 41) cx.1 cx.2.1 dX4_readAtom_87 (by decide) ?_
      obtain ⟨q4, e_q4, h⟩ := md_ob h
      obtain ⟨hm5, hn5, h⟩ := cd_cks h
      have hM5 : p.2.2.1 ≤ (Sum.elim (fun (p : Int32 × cd_S × cd_B) => p.2.2) (fun (t : cd_S × cd_B) => t.2) q4).1 ∧ p.2.2.2 ≤ (Sum.elim (fun (p : Int32 × cd_S × cd_B) => p.2.2) (fun (t : cd_S × cd_B) => t.2) q4).2 := ⟨hm5, hn5⟩
      cases q4 with
      | inr t4 =>
        exact nomatch Option.some.inj h
      | inl p4 =>
        have hle4 := (kc_X4_pass l D cA E sz ad _ hj oq sgq sgv hE n p2.2.1 (p2.2.2) (41 : Int32) p4 e_q4).1
        have hM10005 : p.2.2.1 ≤ p4.2.2.1 ∧ p.2.2.2 ≤ p4.2.2.2 := hM5
        have h := cd_inl h
        refine hp_callVv (As := [.int 41]) (rest := []) cx hw ((kc_X4_pass l D cA E _ ad _ hj oq sgq sgv hE n p2.2.1 (p2.2.2) (41 : Int32) p4 e_q4).2) (cwV 1 cx.2.2.2.2.2.1 (cd_giV cm_714 cm_715 cm_716 cm_663 cm_717) rfl rfl rfl hdc_X4_pass ⟨by (try dsimp only); omega, by (try dsimp only); omega⟩) (cd_atO hj (by decide) (by decide)) rfl rfl hl.1 rfl (Nat.le_of_ble_eq_true rfl) dX4_readAtom_89 ⟨by (try dsimp only); omega, by (try dsimp only); omega⟩ (fun u H locs hp hw => ?_)
        obtain ⟨ca, hj, rfl⟩ := hp
        refine W.widen (k := b0.1 - p4.2.2.1) (n := b0.2 - p4.2.2.2) (by omega) (by omega) ?_
        refine lv_goto (tgt := 134) cx.1 cx.2.1 dX4_readAtom_92 (by decide) ?_
        exact hp_vret cx hw ((cd_retb hj (congrArg some (Sum.inl.inj (Option.some.inj h)))).2) dX4_readAtom_134 (cd_le1 (congrArg some (Sum.inl.inj (Option.some.inj h)))) (cd_le2 (congrArg some (Sum.inl.inj (Option.some.inj h))))
  have h := md_in c7_40 h
  by_cases c7_123 : (cI σ0 328 0) = 123
  · refine lv_lookup (off := 57) (tgt := 64) cx.1 cx.2.1 dX4_readAtom_7 (by decide) (by rw [c7_123]; decide) (by decide) ?_
    have h := md_ip c7_123 h
    refine lv_aload_n cx.1 cx.2.1 dX4_readAtom_64 rfl (lv_at hl 0 rfl) ?_
    refine lv_iload_n cx.1 cx.2.1 dX4_readAtom_65 rfl (lv_at hl 1 rfl) ?_
    obtain ⟨q6, e_q6, h⟩ := md_ob h
    obtain ⟨hm7, hn7, h⟩ := cd_cks h
    have hM7 : p.2.2.1 ≤ (Sum.elim (fun (p : Int32 × cd_S × cd_B) => p.2.2) (fun (t : cd_S × cd_B) => t.2) q6).1 ∧ p.2.2.2 ≤ (Sum.elim (fun (p : Int32 × cd_S × cd_B) => p.2.2) (fun (t : cd_S × cd_B) => t.2) q6).2 := ⟨hm7, hn7⟩
    cases q6 with
    | inr t6 =>
      exact nomatch Option.some.inj h
    | inl p6 =>
      have hle6 := (in18 sz _ hj σ0 b0 a1 p6 e_q6).1
      have hM10007 : p.2.2.1 ≤ p6.2.2.1 ∧ p.2.2.2 ≤ p6.2.2.2 := hM7
      have h := cd_inl h
      refine hp_callVv (As := [.int a1]) (rest := []) cx hw ((in18 _ _ hj σ0 b0 a1 p6 e_q6).2) (cwV 1 cx.2.2.2.2.2.1 (cd_giV cm_815 cm_816 cm_817 cm_663 cm_818) rfl rfl rfl hdc_X4_readRow ⟨by (try dsimp only); omega, by (try dsimp only); omega⟩) (cd_atO hj (by decide) (by decide)) rfl rfl hl.1 rfl (Nat.le_of_ble_eq_true rfl) dX4_readAtom_66 ⟨by (try dsimp only); omega, by (try dsimp only); omega⟩ (fun u H locs hp hw => ?_)
      obtain ⟨ca, hj, rfl⟩ := hp
      refine W.widen (k := b0.1 - p6.2.2.1) (n := b0.2 - p6.2.2.2) (by omega) (by omega) ?_
      refine lv_goto (tgt := 134) cx.1 cx.2.1 dX4_readAtom_69 (by decide) ?_
      exact hp_vret cx hw ((cd_retb hj (congrArg some (Sum.inl.inj (Option.some.inj h)))).2) dX4_readAtom_134 (cd_le1 (congrArg some (Sum.inl.inj (Option.some.inj h)))) (cd_le2 (congrArg some (Sum.inl.inj (Option.some.inj h))))
  have h := md_in c7_123 h
  by_cases c7_222 : (cI σ0 328 0) = 222
  · refine lv_lookup (off := 95) (tgt := 102) cx.1 cx.2.1 dX4_readAtom_7 (by decide) (by rw [c7_222]; decide) (by decide) ?_
    have h := md_ip c7_222 h
    refine lv_aload_n cx.1 cx.2.1 dX4_readAtom_102 rfl (lv_at hl 0 rfl) ?_
    refine lv_iload_n cx.1 cx.2.1 dX4_readAtom_103 rfl (lv_at hl 1 rfl) ?_
    obtain ⟨q8, e_q8, h⟩ := md_ob h
    obtain ⟨hm9, hn9, h⟩ := cd_cks h
    have hM9 : p.2.2.1 ≤ (Sum.elim (fun (p : Int32 × cd_S × cd_B) => p.2.2) (fun (t : cd_S × cd_B) => t.2) q8).1 ∧ p.2.2.2 ≤ (Sum.elim (fun (p : Int32 × cd_S × cd_B) => p.2.2) (fun (t : cd_S × cd_B) => t.2) q8).2 := ⟨hm9, hn9⟩
    cases q8 with
    | inr t8 =>
      exact nomatch Option.some.inj h
    | inl p8 =>
      have hle8 := (in17 sz _ hj σ0 b0 a1 p8 e_q8).1
      have hM10009 : p.2.2.1 ≤ p8.2.2.1 ∧ p.2.2.2 ≤ p8.2.2.2 := hM9
      have h := cd_inl h
      refine hp_callVv (As := [.int a1]) (rest := []) cx hw ((in17 _ _ hj σ0 b0 a1 p8 e_q8).2) (cwV 1 cx.2.2.2.2.2.1 (cd_giV cm_846 cm_847 cm_848 cm_663 cm_849) rfl rfl rfl hdc_X4_readFun ⟨by (try dsimp only); omega, by (try dsimp only); omega⟩) (cd_atO hj (by decide) (by decide)) rfl rfl hl.1 rfl (Nat.le_of_ble_eq_true rfl) dX4_readAtom_104 ⟨by (try dsimp only); omega, by (try dsimp only); omega⟩ (fun u H locs hp hw => ?_)
      obtain ⟨ca, hj, rfl⟩ := hp
      refine W.widen (k := b0.1 - p8.2.2.1) (n := b0.2 - p8.2.2.2) (by omega) (by omega) ?_
      refine lv_goto (tgt := 134) cx.1 cx.2.1 dX4_readAtom_107 (by decide) ?_
      exact hp_vret cx hw ((cd_retb hj (congrArg some (Sum.inl.inj (Option.some.inj h)))).2) dX4_readAtom_134 (cd_le1 (congrArg some (Sum.inl.inj (Option.some.inj h)))) (cd_le2 (congrArg some (Sum.inl.inj (Option.some.inj h))))
  have h := md_in c7_222 h
  by_cases c7_223 : (cI σ0 328 0) = 223
  · refine lv_lookup (off := 88) (tgt := 95) cx.1 cx.2.1 dX4_readAtom_7 (by decide) (by rw [c7_223]; decide) (by decide) ?_
    have h := md_ip c7_223 h
    refine lv_aload_n cx.1 cx.2.1 dX4_readAtom_95 rfl (lv_at hl 0 rfl) ?_
    obtain ⟨q10, e_q10, h⟩ := md_ob h
    obtain ⟨hm11, hn11, h⟩ := cd_cks h
    have hM11 : p.2.2.1 ≤ (Sum.elim (fun (p : Int32 × cd_S × cd_B) => p.2.2) (fun (t : cd_S × cd_B) => t.2) q10).1 ∧ p.2.2.2 ≤ (Sum.elim (fun (p : Int32 × cd_S × cd_B) => p.2.2) (fun (t : cd_S × cd_B) => t.2) q10).2 := ⟨hm11, hn11⟩
    cases q10 with
    | inr t10 =>
      exact nomatch Option.some.inj h
    | inl p10 =>
      have hle10 := (kc_X4_readNew l D cA E sz ad _ hj oq sgq sgv hE n σ0 b0  p10 e_q10).1
      have hM10011 : p.2.2.1 ≤ p10.2.2.1 ∧ p.2.2.2 ≤ p10.2.2.2 := hM11
      have h := cd_inl h
      refine hp_callVv (As := []) (rest := []) cx hw ((kc_X4_readNew l D cA E _ ad _ hj oq sgq sgv hE n σ0 b0  p10 e_q10).2) (cwV 0 cx.2.2.2.2.2.1 (cd_giV cm_850 cm_851 cm_852 cm_663 cm_853) rfl rfl rfl hdc_X4_readNew ⟨by (try dsimp only); omega, by (try dsimp only); omega⟩) (cd_atO hj (by decide) (by decide)) rfl rfl hl.1 rfl (Nat.le_of_ble_eq_true rfl) dX4_readAtom_96 ⟨by (try dsimp only); omega, by (try dsimp only); omega⟩ (fun u H locs hp hw => ?_)
      obtain ⟨ca, hj, rfl⟩ := hp
      refine W.widen (k := b0.1 - p10.2.2.1) (n := b0.2 - p10.2.2.2) (by omega) (by omega) ?_
      refine lv_goto (tgt := 134) cx.1 cx.2.1 dX4_readAtom_99 (by decide) ?_
      exact hp_vret cx hw ((cd_retb hj (congrArg some (Sum.inl.inj (Option.some.inj h)))).2) dX4_readAtom_134 (cd_le1 (congrArg some (Sum.inl.inj (Option.some.inj h)))) (cd_le2 (congrArg some (Sum.inl.inj (Option.some.inj h))))
  have h := md_in c7_223 h
  by_cases c7_227 : (cI σ0 328 0) = 227
  · refine lv_lookup (off := 103) (tgt := 110) cx.1 cx.2.1 dX4_readAtom_7 (by decide) (by rw [c7_227]; decide) (by decide) ?_
    have h := md_ip c7_227 h
    refine lv_aload_n cx.1 cx.2.1 dX4_readAtom_110 rfl (lv_at hl 0 rfl) ?_
    refine lv_bipush (v := 25) cx.1 cx.2.1 dX4_readAtom_111 (by decide) ?_
    refine lv_iload_n cx.1 cx.2.1 dX4_readAtom_113 rfl (lv_at hl 1 rfl) ?_
    obtain ⟨q12, e_q12, h⟩ := md_ob h
    obtain ⟨hm13, hn13, h⟩ := cd_cks h
    have hM13 : p.2.2.1 ≤ (Sum.elim (fun (p : Int32 × cd_S × cd_B) => p.2.2) (fun (t : cd_S × cd_B) => t.2) q12).1 ∧ p.2.2.2 ≤ (Sum.elim (fun (p : Int32 × cd_S × cd_B) => p.2.2) (fun (t : cd_S × cd_B) => t.2) q12).2 := ⟨hm13, hn13⟩
    cases q12 with
    | inr t12 =>
      exact nomatch Option.some.inj h
    | inl p12 =>
      have hle12 := (in19 sz _ hj σ0 b0 (25 : Int32) a1 p12 e_q12).1
      have hM10013 : p.2.2.1 ≤ p12.2.2.1 ∧ p.2.2.2 ≤ p12.2.2.2 := hM13
      have h := cd_inl h
      refine hp_callVv (As := [.int 25, .int a1]) (rest := []) cx hw ((in19 _ _ hj σ0 b0 (25 : Int32) a1 p12 e_q12).2) (cwV 2 cx.2.2.2.2.2.1 (cd_giV cm_854 cm_855 cm_856 cm_663 cm_857) rfl rfl rfl hdc_X4_readAsking ⟨by (try dsimp only); omega, by (try dsimp only); omega⟩) (cd_atO hj (by decide) (by decide)) rfl rfl hl.1 rfl (Nat.le_of_ble_eq_true rfl) dX4_readAtom_114 ⟨by (try dsimp only); omega, by (try dsimp only); omega⟩ (fun u H locs hp hw => ?_)
      obtain ⟨ca, hj, rfl⟩ := hp
      refine W.widen (k := b0.1 - p12.2.2.1) (n := b0.2 - p12.2.2.2) (by omega) (by omega) ?_
      refine lv_goto (tgt := 134) cx.1 cx.2.1 dX4_readAtom_117 (by decide) ?_
      exact hp_vret cx hw ((cd_retb hj (congrArg some (Sum.inl.inj (Option.some.inj h)))).2) dX4_readAtom_134 (cd_le1 (congrArg some (Sum.inl.inj (Option.some.inj h)))) (cd_le2 (congrArg some (Sum.inl.inj (Option.some.inj h))))
  have h := md_in c7_227 h
  by_cases c7_228 : (cI σ0 328 0) = 228
  · refine lv_lookup (off := 113) (tgt := 120) cx.1 cx.2.1 dX4_readAtom_7 (by decide) (by rw [c7_228]; decide) (by decide) ?_
    have h := md_ip c7_228 h
    refine lv_aload_n cx.1 cx.2.1 dX4_readAtom_120 rfl (lv_at hl 0 rfl) ?_
    refine lv_bipush (v := 26) cx.1 cx.2.1 dX4_readAtom_121 (by decide) ?_
    refine lv_iload_n cx.1 cx.2.1 dX4_readAtom_123 rfl (lv_at hl 1 rfl) ?_
    obtain ⟨q14, e_q14, h⟩ := md_ob h
    obtain ⟨hm15, hn15, h⟩ := cd_cks h
    have hM15 : p.2.2.1 ≤ (Sum.elim (fun (p : Int32 × cd_S × cd_B) => p.2.2) (fun (t : cd_S × cd_B) => t.2) q14).1 ∧ p.2.2.2 ≤ (Sum.elim (fun (p : Int32 × cd_S × cd_B) => p.2.2) (fun (t : cd_S × cd_B) => t.2) q14).2 := ⟨hm15, hn15⟩
    cases q14 with
    | inr t14 =>
      exact nomatch Option.some.inj h
    | inl p14 =>
      have hle14 := (in19 sz _ hj σ0 b0 (26 : Int32) a1 p14 e_q14).1
      have hM10015 : p.2.2.1 ≤ p14.2.2.1 ∧ p.2.2.2 ≤ p14.2.2.2 := hM15
      have h := cd_inl h
      refine hp_callVv (As := [.int 26, .int a1]) (rest := []) cx hw ((in19 _ _ hj σ0 b0 (26 : Int32) a1 p14 e_q14).2) (cwV 2 cx.2.2.2.2.2.1 (cd_giV cm_854 cm_855 cm_856 cm_663 cm_857) rfl rfl rfl hdc_X4_readAsking ⟨by (try dsimp only); omega, by (try dsimp only); omega⟩) (cd_atO hj (by decide) (by decide)) rfl rfl hl.1 rfl (Nat.le_of_ble_eq_true rfl) dX4_readAtom_124 ⟨by (try dsimp only); omega, by (try dsimp only); omega⟩ (fun u H locs hp hw => ?_)
      obtain ⟨ca, hj, rfl⟩ := hp
      refine W.widen (k := b0.1 - p14.2.2.1) (n := b0.2 - p14.2.2.2) (by omega) (by omega) ?_
      refine lv_goto (tgt := 134) cx.1 cx.2.1 dX4_readAtom_127 (by decide) ?_
      exact hp_vret cx hw ((cd_retb hj (congrArg some (Sum.inl.inj (Option.some.inj h)))).2) dX4_readAtom_134 (cd_le1 (congrArg some (Sum.inl.inj (Option.some.inj h)))) (cd_le2 (congrArg some (Sum.inl.inj (Option.some.inj h))))
  have h := md_in c7_228 h
  refine lv_lookup (off := 123) (tgt := 130) cx.1 cx.2.1 dX4_readAtom_7 (by decide) ((lv_osw c7_40 (by decide)).trans ((lv_osw c7_123 (by decide)).trans ((lv_osw c7_222 (by decide)).trans ((lv_osw c7_223 (by decide)).trans ((lv_osw c7_227 (by decide)).trans ((lv_osw c7_228 (by decide)).trans rfl)))))) (by decide) ?_
  refine lv_aload_n cx.1 cx.2.1 dX4_readAtom_130 rfl (lv_at hl 0 rfl) ?_
  obtain ⟨q16, e_q16, h⟩ := md_ob h
  obtain ⟨hm17, hn17, h⟩ := cd_cks h
  have hM17 : p.2.2.1 ≤ (Sum.elim (fun (p : Int32 × cd_S × cd_B) => p.2.2) (fun (t : cd_S × cd_B) => t.2) q16).1 ∧ p.2.2.2 ≤ (Sum.elim (fun (p : Int32 × cd_S × cd_B) => p.2.2) (fun (t : cd_S × cd_B) => t.2) q16).2 := ⟨hm17, hn17⟩
  cases q16 with
  | inr t16 =>
    exact nomatch Option.some.inj h
  | inl p16 =>
    have hle16 := (kc_X4_readPlainAtom l D cA E sz ad _ hj oq sgq sgv hE n σ0 b0  p16 e_q16).1
    have hM10017 : p.2.2.1 ≤ p16.2.2.1 ∧ p.2.2.2 ≤ p16.2.2.2 := hM17
    have h := cd_inl h
    refine hp_callVv (As := []) (rest := []) cx hw ((kc_X4_readPlainAtom l D cA E _ ad _ hj oq sgq sgv hE n σ0 b0  p16 e_q16).2) (cwV 0 cx.2.2.2.2.2.1 (cd_giV cm_858 cm_859 cm_860 cm_663 cm_861) rfl rfl rfl hdc_X4_readPlainAtom ⟨by (try dsimp only); omega, by (try dsimp only); omega⟩) (cd_atO hj (by decide) (by decide)) rfl rfl hl.1 rfl (Nat.le_of_ble_eq_true rfl) dX4_readAtom_131 ⟨by (try dsimp only); omega, by (try dsimp only); omega⟩ (fun u H locs hp hw => ?_)
    obtain ⟨ca, hj, rfl⟩ := hp
    refine W.widen (k := b0.1 - p16.2.2.1) (n := b0.2 - p16.2.2.2) (by omega) (by omega) ?_
    exact hp_vret cx hw ((cd_retb hj (congrArg some (Sum.inl.inj (Option.some.inj h)))).2) dX4_readAtom_134 (cd_le1 (congrArg some (Sum.inl.inj (Option.some.inj h)))) (cd_le2 (congrArg some (Sum.inl.inj (Option.some.inj h))))
set_option maxHeartbeats 4000000 in
set_option maxRecDepth 100000 in
theorem kc_X4_readInnerPrefix (l : Launch) (D : va_G) (cA : Nat → ClassId) (E : hp_N) (sz : Nat) (ad : Nat → Nat → Nat) (ca0 : Nat → Nat) (hj : cd_inj ad ca0) (oq sgq sgv : Nat) (hE : cd_E E oq sgq sgv) (n d : Nat) (rec : cd_R) (in9 : ∀ (sz : Nat) (ca : Nat → Nat) (_ : cd_inj ad ca) (σ : cd_S) (b : cd_B) (a1 : Int32) (p : Int32 × cd_S × cd_B), rec 9 0 a1 0 σ b = some (Sum.inl p) → (p.2.2.1 ≤ b.1 ∧ p.2.2.2 ≤ b.2) ∧ Met l yX4_readPrefix (Cond.code yX4_readPrefix cX4_readPrefix 2 none :: v_CLS) ({ frames := d + 16, cells := b.1 - p.2.2.1, slots := b.2 - p.2.2.2, locals := 26 * d + 286 }) (hp_Pc D vwCl (hp_Tl cA) E sz (cd_pic cA ad ca σ) [.ref (ad 4 0), .int a1]) (hp_Qv D vwCl (hp_Tl cA) sz (cd_pic cA ad ca σ) (fun u => ∃ ca1, cd_inj ad ca1 ∧ u = cd_pic cA ad ca1 p.2.1)) (b.1 - p.2.2.1) (b.2 - p.2.2.2) (hp_A (cd_pic cA ad ca σ) sz)) (σ0 : cd_S) (b0 : cd_B) (a1 : Int32) (p : (Int32 × cd_S × cd_B)) (h : f_X4_readInnerPrefix n rec σ0 b0 a1 = some (Sum.inl p)) : (p.2.2.1 ≤ b0.1 ∧ p.2.2.2 ≤ b0.2) ∧ Met l yX4_readInnerPrefix (Cond.code yX4_readInnerPrefix cX4_readInnerPrefix 2 none :: v_CLS) ({ frames := (d + 1) + 16, cells := b0.1 - p.2.2.1, slots := b0.2 - p.2.2.2, locals := 26 * (d + 1) + 286 }) (hp_Pc D vwCl (hp_Tl cA) E sz (cd_pic cA ad ca0 σ0) [.ref (ad 4 0), .int a1]) (hp_Qv D vwCl (hp_Tl cA) sz (cd_pic cA ad ca0 σ0) (fun u => ∃ ca1, cd_inj ad ca1 ∧ u = cd_pic cA ad ca1 p.2.1)) (b0.1 - p.2.2.1) (b0.2 - p.2.2.2) (hp_A (cd_pic cA ad ca0 σ0) sz) := by
  obtain ⟨hm0, hn0, h⟩ := cd_cks h
  have hM0 : p.2.2.1 ≤ b0.1 ∧ p.2.2.2 ≤ b0.2 := ⟨hm0, hn0⟩
  refine ⟨hM0, ?_⟩
  refine hp_ofW (cc := cX4_readInnerPrefix) (maxL := 2) (ret := none) (by decide) rfl (Nat.le_of_ble_eq_true rfl) ?_
  intro pp ee ss mm bb mt cd ls cx hsz hw hl
  have hl : lv_has ls 2 [(0, .ref (ad 4 0)), (1, .int a1)] := hl
  refine W.widen (k := b0.1 - b0.1) (n := b0.2 - b0.2) (Nat.zero_le _) (Nat.zero_le _) ?_
  have J23 : ∀ (ca : Nat → Nat) (hj : cd_inj ad ca) (σ : cd_S) (b : cd_B) (l1 : Int32) (t0 : Int32) (H : Heap) (locs : List Loc) (ls : Array Slot), b.1 ≤ b0.1 → b.2 ≤ b0.2 → p.2.2.1 ≤ b.1 → p.2.2.2 ≤ b.2 → f_X4_readInnerPrefix_J23 n rec σ b l1 t0 = some (Sum.inl p) → hp_w D vwCl (hp_Tl cA) E (hp_A (cd_pic cA ad ca0 σ0) sz) ss H locs (cd_pic cA ad ca σ) → lv_has ls 2 [(0, .ref (ad 4 0)), (1, .int l1)] → W pp l ee ({ frames := (d + 1) + 16, cells := b0.1 - p.2.2.1, slots := b0.2 - p.2.2.2, locals := 26 * (d + 1) + 286 }) ss mm [.ref (ad 4 0), .int a1].toArray bb mt cd H locs (b0.1 - b.1) (b0.2 - b.2) (MQ bb (hp_Qv D vwCl (hp_Tl cA) sz (cd_pic cA ad ca0 σ0) (fun u => ∃ ca1, cd_inj ad ca1 ∧ u = cd_pic cA ad ca1 p.2.1)) [.ref (ad 4 0), .int a1].toArray ss (b0.1 - p.2.2.1) (b0.2 - p.2.2.2) (hp_A (cd_pic cA ad ca0 σ0) sz)) (F0 mm 23 ls [.int t0, .ref (ad 4 0)]) := by
    intro ca hj σ b l1 t0 H locs ls hb1 hb2 hf1 hf2 h hw hl
    obtain ⟨q1, e_q1, h⟩ := md_ob h
    obtain ⟨hm2, hn2, h⟩ := cd_cks h
    have hM2 : p.2.2.1 ≤ (Sum.elim (fun (p : Int32 × cd_S × cd_B) => p.2.2) (fun (t : cd_S × cd_B) => t.2) q1).1 ∧ p.2.2.2 ≤ (Sum.elim (fun (p : Int32 × cd_S × cd_B) => p.2.2) (fun (t : cd_S × cd_B) => t.2) q1).2 := ⟨hm2, hn2⟩
    cases q1 with
    | inr t1 =>
      exact nomatch Option.some.inj h
    | inl p1 =>
      have hle1 := (kc_X4_room l D cA E sz ad _ hj oq sgq sgv hE n σ b t0 p1 e_q1).1
      have hM10002 : p.2.2.1 ≤ p1.2.2.1 ∧ p.2.2.2 ≤ p1.2.2.2 := hM2
      have h := cd_inl h
      refine hp_callVv (As := [.int t0]) (rest := []) cx hw ((kc_X4_room l D cA E _ ad _ hj oq sgq sgv hE n σ b t0 p1 e_q1).2) (cwV 1 cx.2.2.2.2.2.1 (cd_giV cm_691 cm_692 cm_693 cm_663 cm_694) rfl rfl rfl hdc_X4_room ⟨by (try dsimp only); omega, by (try dsimp only); omega⟩) (cd_atO hj (by decide) (by decide)) rfl rfl hl.1 rfl (Nat.le_of_ble_eq_true rfl) dX4_readInnerPrefix_23 ⟨by (try dsimp only); omega, by (try dsimp only); omega⟩ (fun u H locs hp hw => ?_)
      obtain ⟨ca, hj, rfl⟩ := hp
      refine W.widen (k := b0.1 - p1.2.2.1) (n := b0.2 - p1.2.2.2) (by omega) (by omega) ?_
      refine lv_aload_n cx.1 cx.2.1 dX4_readInnerPrefix_26 rfl (lv_at hl 0 rfl) ?_
      refine lv_iload_n cx.1 cx.2.1 dX4_readInnerPrefix_27 rfl (lv_at hl 1 rfl) ?_
      obtain ⟨q3, e_q3, h⟩ := md_ob h
      obtain ⟨hm4, hn4, h⟩ := cd_cks h
      have hM4 : p.2.2.1 ≤ (Sum.elim (fun (p : Int32 × cd_S × cd_B) => p.2.2) (fun (t : cd_S × cd_B) => t.2) q3).1 ∧ p.2.2.2 ≤ (Sum.elim (fun (p : Int32 × cd_S × cd_B) => p.2.2) (fun (t : cd_S × cd_B) => t.2) q3).2 := ⟨hm4, hn4⟩
      cases q3 with
      | inr t3 =>
        exact nomatch Option.some.inj h
      | inl p3 =>
        have hle3 := (in9 sz _ hj p1.2.1 (p1.2.2) l1 p3 e_q3).1
        have hM10004 : p.2.2.1 ≤ p3.2.2.1 ∧ p.2.2.2 ≤ p3.2.2.2 := hM4
        have h := cd_inl h
        refine hp_callVv (As := [.int l1]) (rest := []) cx hw ((in9 _ _ hj p1.2.1 (p1.2.2) l1 p3 e_q3).2) (cwV 1 cx.2.2.2.2.2.1 (cd_giV cm_863 cm_864 cm_865 cm_663 cm_866) rfl rfl rfl hdc_X4_readPrefix ⟨by (try dsimp only); omega, by (try dsimp only); omega⟩) (cd_atO hj (by decide) (by decide)) rfl rfl hl.1 rfl (Nat.le_of_ble_eq_true rfl) dX4_readInnerPrefix_28 ⟨by (try dsimp only); omega, by (try dsimp only); omega⟩ (fun u H locs hp hw => ?_)
        obtain ⟨ca, hj, rfl⟩ := hp
        refine W.widen (k := b0.1 - p3.2.2.1) (n := b0.2 - p3.2.2.2) (by omega) (by omega) ?_
        exact hp_vret cx hw ((cd_retb hj (congrArg some (Sum.inl.inj (Option.some.inj h)))).2) dX4_readInnerPrefix_31 (cd_le1 (congrArg some (Sum.inl.inj (Option.some.inj h)))) (cd_le2 (congrArg some (Sum.inl.inj (Option.some.inj h))))
  refine lv_aload_n cx.1 cx.2.1 dX4_readInnerPrefix_0 rfl (lv_at hl 0 rfl) ?_
  refine lv_aload_n cx.1 cx.2.1 dX4_readInnerPrefix_1 rfl (lv_at hl 0 rfl) ?_
  refine cd_gO (o2 := 10) (e2 := 0) (o := 4) (k := 0) (f := 128) hj cx hw hic4 rfl ⟨by decide, rfl, by decide, rfl⟩ rfl (by decide) ⟨rfl, rfl⟩ (List.mem_cons_of_mem _ cm_658) dX4_readInnerPrefix_2 ?_
  obtain ⟨p5, e_p5, h⟩ := md_ob h
  refine hp_callVi (As := []) (rest := [.ref (ad 4 0)]) cx hw (kc_X10_beginsPrefix l D cA E _ ad _ hj oq sgq sgv hE n σ0  p5 e_p5) (cwV 0 cx.2.2.2.2.2.1 (cd_giV cm_862 cm_753 cm_754 cm_301 cm_755) rfl rfl rfl hdc_X10_beginsPrefix ⟨by (try dsimp only); omega, by (try dsimp only); omega⟩) (cd_atO hj (by decide) (by decide)) rfl rfl hl.1 rfl (Nat.le_of_ble_eq_true rfl) dX4_readInnerPrefix_5 ⟨by (try dsimp only); omega, by (try dsimp only); omega⟩ (fun r u H locs hp hw => ?_)
  obtain ⟨rfl, ca, hj, rfl⟩ := hp
  obtain ⟨q6, e_q6, h⟩ := md_ob h
  obtain ⟨hm7, hn7, h⟩ := cd_cks h
  have hM7 : p.2.2.1 ≤ (Sum.elim (fun (p : Int32 × cd_S × cd_B) => p.2.2) (fun (t : cd_S × cd_B) => t.2) q6).1 ∧ p.2.2.2 ≤ (Sum.elim (fun (p : Int32 × cd_S × cd_B) => p.2.2) (fun (t : cd_S × cd_B) => t.2) q6).2 := ⟨hm7, hn7⟩
  cases q6 with
  | inr t6 =>
    exact nomatch Option.some.inj h
  | inl p6 =>
    have hle6 := (kc_X4_need l D cA E sz ad _ hj oq sgq sgv hE n p5.2 b0 (p5.1) p6 e_q6).1
    have hM10007 : p.2.2.1 ≤ p6.2.2.1 ∧ p.2.2.2 ≤ p6.2.2.2 := hM7
    have h := cd_inl h
    refine hp_callVv (As := [.int p5.1]) (rest := []) cx hw ((kc_X4_need l D cA E _ ad _ hj oq sgq sgv hE n p5.2 b0 (p5.1) p6 e_q6).2) (cwV 1 cx.2.2.2.2.2.1 (cd_giV cm_666 cm_667 cm_668 cm_663 cm_669) rfl rfl rfl hdc_X4_need ⟨by (try dsimp only); omega, by (try dsimp only); omega⟩) (cd_atO hj (by decide) (by decide)) rfl rfl hl.1 rfl (Nat.le_of_ble_eq_true rfl) dX4_readInnerPrefix_8 ⟨by (try dsimp only); omega, by (try dsimp only); omega⟩ (fun u H locs hp hw => ?_)
    obtain ⟨ca, hj, rfl⟩ := hp
    refine W.widen (k := b0.1 - p6.2.2.1) (n := b0.2 - p6.2.2.2) (by omega) (by omega) ?_
    refine lv_aload_n cx.1 cx.2.1 dX4_readInnerPrefix_11 rfl (lv_at hl 0 rfl) ?_
    refine lv_iload_n cx.1 cx.2.1 dX4_readInnerPrefix_12 rfl (lv_at hl 1 rfl) ?_
    refine lv_bipush (v := 24) cx.1 cx.2.1 dX4_readInnerPrefix_13 (by decide) ?_
    refine lv_icmp_gt (tgt := 22) cx.1 cx.2.1 dX4_readInnerPrefix_15 (by decide) (fun c15 => ?_) (fun c15 => ?_)
    · have h := md_ip c15 h
      refine lv_iconst (v := 0) cx.1 cx.2.1 dX4_readInnerPrefix_22 (by decide) ?_
      exact J23 _ hj p6.2.1 (p6.2.2) a1 0 _ _ _ (by omega) (by omega) (by omega) (by omega) h hw (lv_sub hl [0, 1] rfl)
    · have h := md_in c15 h
      refine lv_iconst (v := 1) cx.1 cx.2.1 dX4_readInnerPrefix_18 (by decide) ?_
      refine lv_goto (tgt := 23) cx.1 cx.2.1 dX4_readInnerPrefix_19 (by decide) ?_
      exact J23 _ hj p6.2.1 (p6.2.2) a1 1 _ _ _ (by omega) (by omega) (by omega) (by omega) h hw (lv_sub hl [0, 1] rfl)
set_option maxHeartbeats 4000000 in
set_option maxRecDepth 100000 in
theorem kc_X4_readMember (l : Launch) (D : va_G) (cA : Nat → ClassId) (E : hp_N) (sz : Nat) (ad : Nat → Nat → Nat) (ca0 : Nat → Nat) (hj : cd_inj ad ca0) (oq sgq sgv : Nat) (hE : cd_E E oq sgq sgv) (n d : Nat) (rec : cd_R) (in15 : ∀ (sz : Nat) (ca : Nat → Nat) (_ : cd_inj ad ca) (σ : cd_S) (b : cd_B) (a1 : Int32) (p : Int32 × cd_S × cd_B), rec 15 0 a1 0 σ b = some (Sum.inl p) → (p.2.2.1 ≤ b.1 ∧ p.2.2.2 ≤ b.2) ∧ Met l yX4_readArguments (Cond.code yX4_readArguments cX4_readArguments 5 (some .int) :: v_CLS) ({ frames := d + 16, cells := b.1 - p.2.2.1, slots := b.2 - p.2.2.2, locals := 26 * d + 286 }) (hp_Pc D vwCl (hp_Tl cA) E sz (cd_pic cA ad ca σ) [.ref (ad 4 0), .int a1]) (hp_Qi D vwCl (hp_Tl cA) sz (cd_pic cA ad ca σ) (fun r u => r = p.1 ∧ ∃ ca1, cd_inj ad ca1 ∧ u = cd_pic cA ad ca1 p.2.1)) (b.1 - p.2.2.1) (b.2 - p.2.2.2) (hp_A (cd_pic cA ad ca σ) sz)) (in8 : ∀ (sz : Nat) (ca : Nat → Nat) (_ : cd_inj ad ca) (σ : cd_S) (b : cd_B) (a1 : Int32) (p : Int32 × cd_S × cd_B), rec 8 0 a1 0 σ b = some (Sum.inl p) → (p.2.2.1 ≤ b.1 ∧ p.2.2.2 ≤ b.2) ∧ Met l yX4_readInnerPrefix (Cond.code yX4_readInnerPrefix cX4_readInnerPrefix 2 none :: v_CLS) ({ frames := d + 16, cells := b.1 - p.2.2.1, slots := b.2 - p.2.2.2, locals := 26 * d + 286 }) (hp_Pc D vwCl (hp_Tl cA) E sz (cd_pic cA ad ca σ) [.ref (ad 4 0), .int a1]) (hp_Qv D vwCl (hp_Tl cA) sz (cd_pic cA ad ca σ) (fun u => ∃ ca1, cd_inj ad ca1 ∧ u = cd_pic cA ad ca1 p.2.1)) (b.1 - p.2.2.1) (b.2 - p.2.2.2) (hp_A (cd_pic cA ad ca σ) sz)) (σ0 : cd_S) (b0 : cd_B) (a1 : Int32) (p : (Int32 × cd_S × cd_B)) (h : f_X4_readMember n rec σ0 b0 a1 = some (Sum.inl p)) : (p.2.2.1 ≤ b0.1 ∧ p.2.2.2 ≤ b0.2) ∧ Met l yX4_readMember (Cond.code yX4_readMember cX4_readMember 4 (some .boolean) :: v_CLS) ({ frames := (d + 1) + 16, cells := b0.1 - p.2.2.1, slots := b0.2 - p.2.2.2, locals := 26 * (d + 1) + 286 }) (hp_Pc D vwCl (hp_Tl cA) E sz (cd_pic cA ad ca0 σ0) [.ref (ad 4 0), .int a1]) (hp_Qi D vwCl (hp_Tl cA) sz (cd_pic cA ad ca0 σ0) (fun r u => r = p.1 ∧ ∃ ca1, cd_inj ad ca1 ∧ u = cd_pic cA ad ca1 p.2.1)) (b0.1 - p.2.2.1) (b0.2 - p.2.2.2) (hp_A (cd_pic cA ad ca0 σ0) sz) := by
  obtain ⟨hm0, hn0, h⟩ := cd_cks h
  have hM0 : p.2.2.1 ≤ b0.1 ∧ p.2.2.2 ≤ b0.2 := ⟨hm0, hn0⟩
  refine ⟨hM0, ?_⟩
  refine hp_ofW (cc := cX4_readMember) (maxL := 4) (ret := (some .boolean)) (by decide) rfl (Nat.le_of_ble_eq_true rfl) ?_
  intro pp ee ss mm bb mt cd ls cx hsz hw hl
  have hl : lv_has ls 4 [(0, .ref (ad 4 0)), (1, .int a1)] := hl
  refine W.widen (k := b0.1 - b0.1) (n := b0.2 - b0.2) (Nat.zero_le _) (Nat.zero_le _) ?_
  refine lv_aload_n cx.1 cx.2.1 dX4_readMember_0 rfl (lv_at hl 0 rfl) ?_
  obtain ⟨q1, e_q1, h⟩ := md_ob h
  obtain ⟨hm2, hn2, h⟩ := cd_cks h
  have hM2 : p.2.2.1 ≤ (Sum.elim (fun (p : Int32 × cd_S × cd_B) => p.2.2) (fun (t : cd_S × cd_B) => t.2) q1).1 ∧ p.2.2.2 ≤ (Sum.elim (fun (p : Int32 × cd_S × cd_B) => p.2.2) (fun (t : cd_S × cd_B) => t.2) q1).2 := ⟨hm2, hn2⟩
  cases q1 with
  | inr t1 =>
    exact nomatch Option.some.inj h
  | inl p1 =>
    have hle1 := (kc_X4_part l D cA E sz ad _ hj oq sgq sgv hE n σ0 b0  p1 e_q1).1
    have hM10002 : p.2.2.1 ≤ p1.2.2.1 ∧ p.2.2.2 ≤ p1.2.2.2 := hM2
    have h := cd_inl h
    refine hp_callVv (As := []) (rest := []) cx hw ((kc_X4_part l D cA E _ ad _ hj oq sgq sgv hE n σ0 b0  p1 e_q1).2) (cwV 0 cx.2.2.2.2.2.1 (cd_giV cm_764 cm_765 cm_766 cm_663 cm_767) rfl rfl rfl hdc_X4_part ⟨by (try dsimp only); omega, by (try dsimp only); omega⟩) (cd_atO hj (by decide) (by decide)) rfl rfl hl.1 rfl (Nat.le_of_ble_eq_true rfl) dX4_readMember_1 ⟨by (try dsimp only); omega, by (try dsimp only); omega⟩ (fun u H locs hp hw => ?_)
    obtain ⟨ca, hj, rfl⟩ := hp
    refine W.widen (k := b0.1 - p1.2.2.1) (n := b0.2 - p1.2.2.2) (by omega) (by omega) ?_
    refine lv_aload_n cx.1 cx.2.1 dX4_readMember_4 rfl (lv_at hl 0 rfl) ?_
    refine cd_gO (o2 := 10) (e2 := 0) (o := 4) (k := 0) (f := 128) hj cx hw hic4 rfl ⟨by decide, rfl, by decide, rfl⟩ rfl (by decide) ⟨rfl, rfl⟩ (List.mem_cons_of_mem _ cm_658) dX4_readMember_5 ?_
    obtain ⟨p3, e_p3, h⟩ := md_ob h
    refine hp_callVv (As := []) (rest := []) cx hw (kc_X10_advance l D cA E _ ad _ hj oq sgq sgv hE n p1.2.1  p3 e_p3) (cwV 0 cx.2.2.2.2.2.1 (cd_giV cm_670 cm_671 cm_672 cm_301 cm_673) rfl rfl rfl hdc_X10_advance ⟨by (try dsimp only); omega, by (try dsimp only); omega⟩) (cd_atO hj (by decide) (by decide)) rfl rfl hl.1 rfl (Nat.le_of_ble_eq_true rfl) dX4_readMember_8 ⟨by (try dsimp only); omega, by (try dsimp only); omega⟩ (fun u H locs hp hw => ?_)
    obtain ⟨ca, hj, rfl⟩ := hp
    refine lv_aload_n cx.1 cx.2.1 dX4_readMember_11 rfl (lv_at hl 0 rfl) ?_
    obtain ⟨q4, e_q4, h⟩ := md_ob h
    obtain ⟨hm5, hn5, h⟩ := cd_cks h
    have hM5 : p.2.2.1 ≤ (Sum.elim (fun (p : Int32 × cd_S × cd_B) => p.2.2) (fun (t : cd_S × cd_B) => t.2) q4).1 ∧ p.2.2.2 ≤ (Sum.elim (fun (p : Int32 × cd_S × cd_B) => p.2.2) (fun (t : cd_S × cd_B) => t.2) q4).2 := ⟨hm5, hn5⟩
    cases q4 with
    | inr t4 =>
      exact nomatch Option.some.inj h
    | inl p4 =>
      have hle4 := (kc_X4_needName l D cA E sz ad _ hj oq sgq sgv hE n p3.2 (p1.2.2)  p4 e_q4).1
      have hM10005 : p.2.2.1 ≤ p4.2.2.1 ∧ p.2.2.2 ≤ p4.2.2.2 := hM5
      have h := cd_inl h
      refine hp_callVv (As := []) (rest := []) cx hw ((kc_X4_needName l D cA E _ ad _ hj oq sgq sgv hE n p3.2 (p1.2.2)  p4 e_q4).2) (cwV 0 cx.2.2.2.2.2.1 (cd_giV cm_687 cm_688 cm_689 cm_663 cm_690) rfl rfl rfl hdc_X4_needName ⟨by (try dsimp only); omega, by (try dsimp only); omega⟩) (cd_atO hj (by decide) (by decide)) rfl rfl hl.1 rfl (Nat.le_of_ble_eq_true rfl) dX4_readMember_12 ⟨by (try dsimp only); omega, by (try dsimp only); omega⟩ (fun u H locs hp hw => ?_)
      obtain ⟨ca, hj, rfl⟩ := hp
      refine W.widen (k := b0.1 - p4.2.2.1) (n := b0.2 - p4.2.2.2) (by omega) (by omega) ?_
      refine lv_aload_n cx.1 cx.2.1 dX4_readMember_15 rfl (lv_at hl 0 rfl) ?_
      refine cd_gO (o2 := 2) (e2 := 0) (o := 4) (k := 1) (f := 129) hj cx hw hic4 rfl ⟨by decide, rfl, by decide, rfl⟩ rfl (by decide) ⟨rfl, rfl⟩ (List.mem_cons_of_mem _ cm_722) dX4_readMember_16 ?_
      refine lv_aload_n cx.1 cx.2.1 dX4_readMember_19 rfl (lv_at hl 0 rfl) ?_
      refine cd_gO (o2 := 10) (e2 := 0) (o := 4) (k := 0) (f := 128) hj cx hw hic4 rfl ⟨by decide, rfl, by decide, rfl⟩ rfl (by decide) ⟨rfl, rfl⟩ (List.mem_cons_of_mem _ cm_658) dX4_readMember_20 ?_
      refine cd_gJ (o := 10) (k := 10) (f := 330) hj cx hw hic10 rfl ⟨by decide, rfl, by decide, rfl⟩ rfl (by decide) (List.mem_cons_of_mem _ cm_695) dX4_readMember_23 ?_
      obtain ⟨p6, e_p6, h⟩ := md_ob h
      refine hp_callVi (As := [.long (cJ p4.2.1 330 0)]) (rest := []) cx hw (kc_X2_nameIndex l D cA E _ ad _ hj oq sgq sgv hE n p4.2.1 ((cJ p4.2.1 330 0)) p6 e_p6) (cwV 1 cx.2.2.2.2.2.1 (cd_giV cm_867 cm_868 cm_869 cm_167 cm_870) rfl rfl rfl hdc_X2_nameIndex ⟨by (try dsimp only); omega, by (try dsimp only); omega⟩) (cd_atO hj (by decide) (by decide)) rfl rfl hl.1 rfl (Nat.le_of_ble_eq_true rfl) dX4_readMember_26 ⟨by (try dsimp only); omega, by (try dsimp only); omega⟩ (fun r u H locs hp hw => ?_)
      obtain ⟨rfl, ca, hj, rfl⟩ := hp
      refine lv_istore_n (lv' := [(2, .int p6.1), (0, .ref (ad 4 0)), (1, .int a1)]) cx.1 cx.2.1 dX4_readMember_29 rfl hl (by decide) rfl (fun ls hl => ?_)
      refine lv_aload_n cx.1 cx.2.1 dX4_readMember_30 rfl (lv_at hl 1 rfl) ?_
      refine cd_gO (o2 := 10) (e2 := 0) (o := 4) (k := 0) (f := 128) hj cx hw hic4 rfl ⟨by decide, rfl, by decide, rfl⟩ rfl (by decide) ⟨rfl, rfl⟩ (List.mem_cons_of_mem _ cm_658) dX4_readMember_31 ?_
      obtain ⟨p7, e_p7, h⟩ := md_ob h
      refine hp_callVv (As := []) (rest := []) cx hw (kc_X10_advance l D cA E _ ad _ hj oq sgq sgv hE n p6.2  p7 e_p7) (cwV 0 cx.2.2.2.2.2.1 (cd_giV cm_670 cm_671 cm_672 cm_301 cm_673) rfl rfl rfl hdc_X10_advance ⟨by (try dsimp only); omega, by (try dsimp only); omega⟩) (cd_atO hj (by decide) (by decide)) rfl rfl hl.1 rfl (Nat.le_of_ble_eq_true rfl) dX4_readMember_34 ⟨by (try dsimp only); omega, by (try dsimp only); omega⟩ (fun u H locs hp hw => ?_)
      obtain ⟨ca, hj, rfl⟩ := hp
      refine lv_aload_n cx.1 cx.2.1 dX4_readMember_37 rfl (lv_at hl 1 rfl) ?_
      refine cd_gO (o2 := 10) (e2 := 0) (o := 4) (k := 0) (f := 128) hj cx hw hic4 rfl ⟨by decide, rfl, by decide, rfl⟩ rfl (by decide) ⟨rfl, rfl⟩ (List.mem_cons_of_mem _ cm_658) dX4_readMember_38 ?_
      refine cd_gI (o := 10) (k := 8) (f := 328) hj cx hw hic10 rfl ⟨by decide, rfl, by decide, rfl⟩ rfl (by decide) (List.mem_cons_of_mem _ cm_665) dX4_readMember_41 ?_
      refine lv_bipush (v := 40) cx.1 cx.2.1 dX4_readMember_44 (by decide) ?_
      refine lv_icmp_ne (tgt := 68) cx.1 cx.2.1 dX4_readMember_46 (by decide) (fun c46 => ?_) (fun c46 => ?_)
      · have h := md_in c46 h
        refine lv_aload_n cx.1 cx.2.1 dX4_readMember_68 rfl (lv_at hl 1 rfl) ?_
        refine cd_gO (o2 := 10) (e2 := 0) (o := 4) (k := 0) (f := 128) hj cx hw hic4 rfl ⟨by decide, rfl, by decide, rfl⟩ rfl (by decide) ⟨rfl, rfl⟩ (List.mem_cons_of_mem _ cm_658) dX4_readMember_69 ?_
        refine cd_gI (o := 10) (k := 8) (f := 328) hj cx hw hic10 rfl ⟨by decide, rfl, by decide, rfl⟩ rfl (by decide) (List.mem_cons_of_mem _ cm_665) dX4_readMember_72 ?_
        refine lv_sipush (v := 200) cx.1 cx.2.1 dX4_readMember_75 (by decide) ?_
        refine lv_icmp_eq (tgt := 93) cx.1 cx.2.1 dX4_readMember_78 (by decide) (fun c78 => ?_) (fun c78 => ?_)
        · have h := md_ip c78 h
          refine lv_aload_n cx.1 cx.2.1 dX4_readMember_93 rfl (lv_at hl 1 rfl) ?_
          refine cd_gO (o2 := 10) (e2 := 0) (o := 4) (k := 0) (f := 128) hj cx hw hic4 rfl ⟨by decide, rfl, by decide, rfl⟩ rfl (by decide) ⟨rfl, rfl⟩ (List.mem_cons_of_mem _ cm_658) dX4_readMember_94 ?_
          obtain ⟨p8, e_p8, h⟩ := md_ob h
          refine hp_callVv (As := []) (rest := []) cx hw (kc_X10_advance l D cA E _ ad _ hj oq sgq sgv hE n p7.2  p8 e_p8) (cwV 0 cx.2.2.2.2.2.1 (cd_giV cm_670 cm_671 cm_672 cm_301 cm_673) rfl rfl rfl hdc_X10_advance ⟨by (try dsimp only); omega, by (try dsimp only); omega⟩) (cd_atO hj (by decide) (by decide)) rfl rfl hl.1 rfl (Nat.le_of_ble_eq_true rfl) dX4_readMember_97 ⟨by (try dsimp only); omega, by (try dsimp only); omega⟩ (fun u H locs hp hw => ?_)
          obtain ⟨ca, hj, rfl⟩ := hp
          refine lv_aload_n cx.1 cx.2.1 dX4_readMember_100 rfl (lv_at hl 1 rfl) ?_
          refine lv_iload_n cx.1 cx.2.1 dX4_readMember_101 rfl (lv_at hl 2 rfl) ?_
          refine lv_iconst (v := 1) cx.1 cx.2.1 dX4_readMember_102 (by decide) ?_
          refine lv_iadd cx.1 cx.2.1 dX4_readMember_103 ?_
          obtain ⟨q9, e_q9, h⟩ := md_ob h
          obtain ⟨hm10, hn10, h⟩ := cd_cks h
          have hM10 : p.2.2.1 ≤ (Sum.elim (fun (p : Int32 × cd_S × cd_B) => p.2.2) (fun (t : cd_S × cd_B) => t.2) q9).1 ∧ p.2.2.2 ≤ (Sum.elim (fun (p : Int32 × cd_S × cd_B) => p.2.2) (fun (t : cd_S × cd_B) => t.2) q9).2 := ⟨hm10, hn10⟩
          cases q9 with
          | inr t9 =>
            exact nomatch Option.some.inj h
          | inl p9 =>
            have hle9 := (in8 sz _ hj p8.2 (p4.2.2) ((a1 + 1)) p9 e_q9).1
            have hM10010 : p.2.2.1 ≤ p9.2.2.1 ∧ p.2.2.2 ≤ p9.2.2.2 := hM10
            have h := cd_inl h
            refine hp_callVv (As := [.int (a1 + 1)]) (rest := []) cx hw ((in8 _ _ hj p8.2 (p4.2.2) ((a1 + 1)) p9 e_q9).2) (cwV 1 cx.2.2.2.2.2.1 (cd_giV cm_871 cm_872 cm_873 cm_663 cm_874) rfl rfl rfl hdc_X4_readInnerPrefix ⟨by (try dsimp only); omega, by (try dsimp only); omega⟩) (cd_atO hj (by decide) (by decide)) rfl rfl hl.1 rfl (Nat.le_of_ble_eq_true rfl) dX4_readMember_104 ⟨by (try dsimp only); omega, by (try dsimp only); omega⟩ (fun u H locs hp hw => ?_)
            obtain ⟨ca, hj, rfl⟩ := hp
            refine W.widen (k := b0.1 - p9.2.2.1) (n := b0.2 - p9.2.2.2) (by omega) (by omega) ?_
            refine lv_aload_n cx.1 cx.2.1 dX4_readMember_107 rfl (lv_at hl 1 rfl) ?_
            obtain ⟨u11, e_u11, h⟩ := md_ob h
            have hb_u11 : u11 < 60 := (cd_dps e_u11).2
            refine cd_gP (o2 := 9) (u := u11) (o := 4) (k := 8) (f := 136) hj cx hw hic4 rfl ⟨by decide, rfl, by decide, rfl⟩ rfl (by decide) rfl e_u11 (List.mem_cons_of_mem _ cm_749) dX4_readMember_108 ?_
            refine lv_bipush (v := 6) cx.1 cx.2.1 dX4_readMember_111 (by decide) ?_
            refine lv_iload_n cx.1 cx.2.1 dX4_readMember_113 rfl (lv_at hl 0 rfl) ?_
            refine lv_iconst (v := 0) cx.1 cx.2.1 dX4_readMember_114 (by decide) ?_
            obtain ⟨p12, e_p12, h⟩ := md_ob h
            obtain ⟨hm13, hn13, h⟩ := cd_cks h
            have hM13 : p.2.2.1 ≤ p12.2.2.1 ∧ p.2.2.2 ≤ p12.2.2.2 := ⟨hm13, hn13⟩
            have hle12 := (kc_X9_emit l D cA E sz ad _ hj oq sgq sgv hE n p9.2.1 (p9.2.2) u11 (6 : Int32) (p6.1) (0 : Int32) (show _ < 60 by omega) p12 e_p12).1
            refine hp_callVv (As := [.int 6, .int p6.1, .int 0]) (rest := []) cx hw ((kc_X9_emit l D cA E _ ad _ hj oq sgq sgv hE n p9.2.1 (p9.2.2) u11 (6 : Int32) (p6.1) (0 : Int32) (show _ < 60 by omega) p12 e_p12).2) (cwV 3 cx.2.2.2.2.2.1 (cd_giV cm_781 cm_782 cm_783 cm_114 cm_784) rfl rfl rfl hdc_X9_emit ⟨by (try dsimp only); omega, by (try dsimp only); omega⟩) (cd_atO hj (by decide) (show _ < 60 by omega)) rfl rfl hl.1 rfl (Nat.le_of_ble_eq_true rfl) dX4_readMember_115 ⟨by (try dsimp only); omega, by (try dsimp only); omega⟩ (fun u H locs hp hw => ?_)
            obtain ⟨ca, hj, rfl⟩ := hp
            refine W.widen (k := b0.1 - p12.2.2.1) (n := b0.2 - p12.2.2.2) (by omega) (by omega) ?_
            refine lv_iconst (v := 0) cx.1 cx.2.1 dX4_readMember_118 (by decide) ?_
            exact hp_zret cx hw (cd_retb hj (congrArg some (Sum.inl.inj (Option.some.inj h)))) (by decide) dX4_readMember_119 (cd_le1 (congrArg some (Sum.inl.inj (Option.some.inj h)))) (cd_le2 (congrArg some (Sum.inl.inj (Option.some.inj h))))
        · have h := md_in c78 h
          refine lv_aload_n cx.1 cx.2.1 dX4_readMember_81 rfl (lv_at hl 1 rfl) ?_
          obtain ⟨u14, e_u14, h⟩ := md_ob h
          have hb_u14 : u14 < 60 := (cd_dps e_u14).2
          refine cd_gP (o2 := 9) (u := u14) (o := 4) (k := 8) (f := 136) hj cx hw hic4 rfl ⟨by decide, rfl, by decide, rfl⟩ rfl (by decide) rfl e_u14 (List.mem_cons_of_mem _ cm_749) dX4_readMember_82 ?_
          refine lv_iconst (v := 5) cx.1 cx.2.1 dX4_readMember_85 (by decide) ?_
          refine lv_iload_n cx.1 cx.2.1 dX4_readMember_86 rfl (lv_at hl 0 rfl) ?_
          refine lv_iconst (v := 0) cx.1 cx.2.1 dX4_readMember_87 (by decide) ?_
          obtain ⟨p15, e_p15, h⟩ := md_ob h
          obtain ⟨hm16, hn16, h⟩ := cd_cks h
          have hM16 : p.2.2.1 ≤ p15.2.2.1 ∧ p.2.2.2 ≤ p15.2.2.2 := ⟨hm16, hn16⟩
          have hle15 := (kc_X9_emit l D cA E sz ad _ hj oq sgq sgv hE n p7.2 (p4.2.2) u14 (5 : Int32) (p6.1) (0 : Int32) (show _ < 60 by omega) p15 e_p15).1
          refine hp_callVv (As := [.int 5, .int p6.1, .int 0]) (rest := []) cx hw ((kc_X9_emit l D cA E _ ad _ hj oq sgq sgv hE n p7.2 (p4.2.2) u14 (5 : Int32) (p6.1) (0 : Int32) (show _ < 60 by omega) p15 e_p15).2) (cwV 3 cx.2.2.2.2.2.1 (cd_giV cm_781 cm_782 cm_783 cm_114 cm_784) rfl rfl rfl hdc_X9_emit ⟨by (try dsimp only); omega, by (try dsimp only); omega⟩) (cd_atO hj (by decide) (show _ < 60 by omega)) rfl rfl hl.1 rfl (Nat.le_of_ble_eq_true rfl) dX4_readMember_88 ⟨by (try dsimp only); omega, by (try dsimp only); omega⟩ (fun u H locs hp hw => ?_)
          obtain ⟨ca, hj, rfl⟩ := hp
          refine W.widen (k := b0.1 - p15.2.2.1) (n := b0.2 - p15.2.2.2) (by omega) (by omega) ?_
          refine lv_iconst (v := 1) cx.1 cx.2.1 dX4_readMember_91 (by decide) ?_
          exact hp_zret cx hw (cd_retb hj (congrArg some (Sum.inl.inj (Option.some.inj h)))) (by decide) dX4_readMember_92 (cd_le1 (congrArg some (Sum.inl.inj (Option.some.inj h)))) (cd_le2 (congrArg some (Sum.inl.inj (Option.some.inj h))))
      · have h := md_ip c46 h
        refine lv_aload_n cx.1 cx.2.1 dX4_readMember_49 rfl (lv_at hl 1 rfl) ?_
        refine lv_iload_n cx.1 cx.2.1 dX4_readMember_50 rfl (lv_at hl 2 rfl) ?_
        obtain ⟨q17, e_q17, h⟩ := md_ob h
        obtain ⟨hm18, hn18, h⟩ := cd_cks h
        have hM18 : p.2.2.1 ≤ (Sum.elim (fun (p : Int32 × cd_S × cd_B) => p.2.2) (fun (t : cd_S × cd_B) => t.2) q17).1 ∧ p.2.2.2 ≤ (Sum.elim (fun (p : Int32 × cd_S × cd_B) => p.2.2) (fun (t : cd_S × cd_B) => t.2) q17).2 := ⟨hm18, hn18⟩
        cases q17 with
        | inr t17 =>
          exact nomatch Option.some.inj h
        | inl p17 =>
          have hle17 := (in15 sz _ hj p7.2 (p4.2.2) a1 p17 e_q17).1
          have hM10018 : p.2.2.1 ≤ p17.2.2.1 ∧ p.2.2.2 ≤ p17.2.2.2 := hM18
          have h := cd_inl h
          refine hp_callVi (As := [.int a1]) (rest := []) cx hw ((in15 _ _ hj p7.2 (p4.2.2) a1 p17 e_q17).2) (cwV 1 cx.2.2.2.2.2.1 (cd_giV cm_875 cm_876 cm_877 cm_663 cm_878) rfl rfl rfl hdc_X4_readArguments ⟨by (try dsimp only); omega, by (try dsimp only); omega⟩) (cd_atO hj (by decide) (by decide)) rfl rfl hl.1 rfl (Nat.le_of_ble_eq_true rfl) dX4_readMember_51 ⟨by (try dsimp only); omega, by (try dsimp only); omega⟩ (fun r u H locs hp hw => ?_)
          obtain ⟨rfl, ca, hj, rfl⟩ := hp
          refine W.widen (k := b0.1 - p17.2.2.1) (n := b0.2 - p17.2.2.2) (by omega) (by omega) ?_
          refine lv_istore_n (lv' := [(3, .int p17.1), (2, .int p6.1), (0, .ref (ad 4 0)), (1, .int a1)]) cx.1 cx.2.1 dX4_readMember_54 rfl hl (by decide) rfl (fun ls hl => ?_)
          refine lv_aload_n cx.1 cx.2.1 dX4_readMember_55 rfl (lv_at hl 2 rfl) ?_
          obtain ⟨u19, e_u19, h⟩ := md_ob h
          have hb_u19 : u19 < 60 := (cd_dps e_u19).2
          refine cd_gP (o2 := 9) (u := u19) (o := 4) (k := 8) (f := 136) hj cx hw hic4 rfl ⟨by decide, rfl, by decide, rfl⟩ rfl (by decide) rfl e_u19 (List.mem_cons_of_mem _ cm_749) dX4_readMember_56 ?_
          refine lv_bipush (v := 7) cx.1 cx.2.1 dX4_readMember_59 (by decide) ?_
          refine lv_iload_n cx.1 cx.2.1 dX4_readMember_61 rfl (lv_at hl 1 rfl) ?_
          refine lv_iload_n cx.1 cx.2.1 dX4_readMember_62 rfl (lv_at hl 0 rfl) ?_
          obtain ⟨p20, e_p20, h⟩ := md_ob h
          obtain ⟨hm21, hn21, h⟩ := cd_cks h
          have hM21 : p.2.2.1 ≤ p20.2.2.1 ∧ p.2.2.2 ≤ p20.2.2.2 := ⟨hm21, hn21⟩
          have hle20 := (kc_X9_emit l D cA E sz ad _ hj oq sgq sgv hE n p17.2.1 (p17.2.2) u19 (7 : Int32) (p6.1) (p17.1) (show _ < 60 by omega) p20 e_p20).1
          refine hp_callVv (As := [.int 7, .int p6.1, .int p17.1]) (rest := []) cx hw ((kc_X9_emit l D cA E _ ad _ hj oq sgq sgv hE n p17.2.1 (p17.2.2) u19 (7 : Int32) (p6.1) (p17.1) (show _ < 60 by omega) p20 e_p20).2) (cwV 3 cx.2.2.2.2.2.1 (cd_giV cm_781 cm_782 cm_783 cm_114 cm_784) rfl rfl rfl hdc_X9_emit ⟨by (try dsimp only); omega, by (try dsimp only); omega⟩) (cd_atO hj (by decide) (show _ < 60 by omega)) rfl rfl hl.1 rfl (Nat.le_of_ble_eq_true rfl) dX4_readMember_63 ⟨by (try dsimp only); omega, by (try dsimp only); omega⟩ (fun u H locs hp hw => ?_)
          obtain ⟨ca, hj, rfl⟩ := hp
          refine W.widen (k := b0.1 - p20.2.2.1) (n := b0.2 - p20.2.2.2) (by omega) (by omega) ?_
          refine lv_iconst (v := 1) cx.1 cx.2.1 dX4_readMember_66 (by decide) ?_
          exact hp_zret cx hw (cd_retb hj (congrArg some (Sum.inl.inj (Option.some.inj h)))) (by decide) dX4_readMember_67 (cd_le1 (congrArg some (Sum.inl.inj (Option.some.inj h)))) (cd_le2 (congrArg some (Sum.inl.inj (Option.some.inj h))))
