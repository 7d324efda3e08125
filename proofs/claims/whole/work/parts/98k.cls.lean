set_option maxHeartbeats 4000000 in
set_option maxRecDepth 100000 in
theorem kc_X4_readPostfix (l : Launch) (D : va_G) (cA : Nat → ClassId) (E : hp_N) (sz : Nat) (ad : Nat → Nat → Nat) (ca0 : Nat → Nat) (hj : cd_inj ad ca0) (oq sgq sgv : Nat) (hE : cd_E E oq sgq sgv) (n d : Nat) (rec : cd_R) (in15 : ∀ (sz : Nat) (ca : Nat → Nat) (_ : cd_inj ad ca) (σ : cd_S) (b : cd_B) (a1 : Int32) (p : Int32 × cd_S × cd_B), rec 15 0 a1 0 σ b = some (Sum.inl p) → (p.2.2.1 ≤ b.1 ∧ p.2.2.2 ≤ b.2) ∧ Met l yX4_readArguments (Cond.code yX4_readArguments cX4_readArguments 5 (some .int) :: v_CLS) ({ frames := d + 16, cells := b.1 - p.2.2.1, slots := b.2 - p.2.2.2, locals := 26 * d + 286 }) (hp_Pc D vwCl (hp_Tl cA) E sz (cd_pic cA ad ca σ) [.ref (ad 4 0), .int a1]) (hp_Qi D vwCl (hp_Tl cA) sz (cd_pic cA ad ca σ) (fun r u => r = p.1 ∧ ∃ ca1, cd_inj ad ca1 ∧ u = cd_pic cA ad ca1 p.2.1)) (b.1 - p.2.2.1) (b.2 - p.2.2.2) (hp_A (cd_pic cA ad ca σ) sz)) (in16 : ∀ (sz : Nat) (ca : Nat → Nat) (_ : cd_inj ad ca) (σ : cd_S) (b : cd_B) (a1 : Int32) (p : Int32 × cd_S × cd_B), rec 16 0 a1 0 σ b = some (Sum.inl p) → (p.2.2.1 ≤ b.1 ∧ p.2.2.2 ≤ b.2) ∧ Met l yX4_readAtom (Cond.code yX4_readAtom cX4_readAtom 2 none :: v_CLS) ({ frames := d + 16, cells := b.1 - p.2.2.1, slots := b.2 - p.2.2.2, locals := 26 * d + 286 }) (hp_Pc D vwCl (hp_Tl cA) E sz (cd_pic cA ad ca σ) [.ref (ad 4 0), .int a1]) (hp_Qv D vwCl (hp_Tl cA) sz (cd_pic cA ad ca σ) (fun u => ∃ ca1, cd_inj ad ca1 ∧ u = cd_pic cA ad ca1 p.2.1)) (b.1 - p.2.2.1) (b.2 - p.2.2.2) (hp_A (cd_pic cA ad ca σ) sz)) (in14 : ∀ (sz : Nat) (ca : Nat → Nat) (_ : cd_inj ad ca) (σ : cd_S) (b : cd_B) (a1 : Int32) (p : Int32 × cd_S × cd_B), rec 14 0 a1 0 σ b = some (Sum.inl p) → (p.2.2.1 ≤ b.1 ∧ p.2.2.2 ≤ b.2) ∧ Met l yX4_readMember (Cond.code yX4_readMember cX4_readMember 4 (some .boolean) :: v_CLS) ({ frames := d + 16, cells := b.1 - p.2.2.1, slots := b.2 - p.2.2.2, locals := 26 * d + 286 }) (hp_Pc D vwCl (hp_Tl cA) E sz (cd_pic cA ad ca σ) [.ref (ad 4 0), .int a1]) (hp_Qi D vwCl (hp_Tl cA) sz (cd_pic cA ad ca σ) (fun r u => r = p.1 ∧ ∃ ca1, cd_inj ad ca1 ∧ u = cd_pic cA ad ca1 p.2.1)) (b.1 - p.2.2.1) (b.2 - p.2.2.2) (hp_A (cd_pic cA ad ca σ) sz)) (σ0 : cd_S) (b0 : cd_B) (a1 : Int32) (p : (Int32 × cd_S × cd_B)) (h : f_X4_readPostfix n rec σ0 b0 a1 = some (Sum.inl p)) : (p.2.2.1 ≤ b0.1 ∧ p.2.2.2 ≤ b0.2) ∧ Met l yX4_readPostfix (Cond.code yX4_readPostfix cX4_readPostfix 5 none :: v_CLS) ({ frames := (d + 1) + 16, cells := b0.1 - p.2.2.1, slots := b0.2 - p.2.2.2, locals := 26 * (d + 1) + 286 }) (hp_Pc D vwCl (hp_Tl cA) E sz (cd_pic cA ad ca0 σ0) [.ref (ad 4 0), .int a1]) (hp_Qv D vwCl (hp_Tl cA) sz (cd_pic cA ad ca0 σ0) (fun u => ∃ ca1, cd_inj ad ca1 ∧ u = cd_pic cA ad ca1 p.2.1)) (b0.1 - p.2.2.1) (b0.2 - p.2.2.2) (hp_A (cd_pic cA ad ca0 σ0) sz) := by
  obtain ⟨hm0, hn0, h⟩ := cd_cks h
  have hM0 : p.2.2.1 ≤ b0.1 ∧ p.2.2.2 ≤ b0.2 := ⟨hm0, hn0⟩
  refine ⟨hM0, ?_⟩
  refine hp_ofW (cc := cX4_readPostfix) (maxL := 5) (ret := none) (by decide) rfl (Nat.le_of_ble_eq_true rfl) ?_
  intro pp ee ss mm bb mt cd ls cx hsz hw hl
  have hl : lv_has ls 5 [(0, .ref (ad 4 0)), (1, .int a1)] := hl
  refine W.widen (k := b0.1 - b0.1) (n := b0.2 - b0.2) (Nat.zero_le _) (Nat.zero_le _) ?_
  refine lv_aload_n cx.1 cx.2.1 dX4_readPostfix_0 rfl (lv_at hl 0 rfl) ?_
  refine lv_iload_n cx.1 cx.2.1 dX4_readPostfix_1 rfl (lv_at hl 1 rfl) ?_
  obtain ⟨q1, e_q1, h⟩ := md_ob h
  obtain ⟨hm2, hn2, h⟩ := cd_cks h
  have hM2 : p.2.2.1 ≤ (Sum.elim (fun (p : Int32 × cd_S × cd_B) => p.2.2) (fun (t : cd_S × cd_B) => t.2) q1).1 ∧ p.2.2.2 ≤ (Sum.elim (fun (p : Int32 × cd_S × cd_B) => p.2.2) (fun (t : cd_S × cd_B) => t.2) q1).2 := ⟨hm2, hn2⟩
  cases q1 with
  | inr t1 =>
    exact nomatch Option.some.inj h
  | inl p1 =>
    have hle1 := (in16 sz _ hj σ0 b0 a1 p1 e_q1).1
    have hM10002 : p.2.2.1 ≤ p1.2.2.1 ∧ p.2.2.2 ≤ p1.2.2.2 := hM2
    have h := cd_inl h
    refine hp_callVv (As := [.int a1]) (rest := []) cx hw ((in16 _ _ hj σ0 b0 a1 p1 e_q1).2) (cwV 1 cx.2.2.2.2.2.1 (cd_giV cm_879 cm_880 cm_881 cm_663 cm_882) rfl rfl rfl hdc_X4_readAtom ⟨by (try dsimp only); omega, by (try dsimp only); omega⟩) (cd_atO hj (by decide) (by decide)) rfl rfl hl.1 rfl (Nat.le_of_ble_eq_true rfl) dX4_readPostfix_2 ⟨by (try dsimp only); omega, by (try dsimp only); omega⟩ (fun u H locs hp hw => ?_)
    obtain ⟨ca, hj, rfl⟩ := hp
    refine W.widen (k := b0.1 - p1.2.2.1) (n := b0.2 - p1.2.2.2) (by omega) (by omega) ?_
    refine lv_iconst (v := 1) cx.1 cx.2.1 dX4_readPostfix_5 (by decide) ?_
    refine lv_istore_n (lv' := [(2, .int 1), (0, .ref (ad 4 0)), (1, .int a1)]) cx.1 cx.2.1 dX4_readPostfix_6 rfl hl (by decide) rfl (fun ls hl => ?_)
    refine lv_iconst (v := 0) cx.1 cx.2.1 dX4_readPostfix_7 (by decide) ?_
    refine lv_istore_n (lv' := [(3, .int 0), (2, .int 1), (0, .ref (ad 4 0)), (1, .int a1)]) cx.1 cx.2.1 dX4_readPostfix_8 rfl hl (by decide) rfl (fun ls hl => ?_)
    have L9 : ∀ (j : Nat) (ca : Nat → Nat) (hj : cd_inj ad ca) (σ : cd_S) (b : cd_B) (l1 : Int32) (l2 : Int32) (l3 : Int32) (q : (((Int32 × cd_S × cd_B) ⊕ (cd_S × cd_B)) ⊕ (cd_S × cd_B × Int32 × Int32))) (H : Heap) (locs : List Loc) (ls : Array Slot), b.1 ≤ b0.1 → b.2 ≤ b0.2 → p.2.2.1 ≤ b.1 → p.2.2.2 ≤ b.2 → p.2.2.1 ≤ (Sum.elim (fun (q : ((Int32 × cd_S × cd_B) ⊕ (cd_S × cd_B))) => Sum.elim (fun (p : (Int32 × cd_S × cd_B)) => p.2.2) (fun (t : cd_S × cd_B) => t.2) q) (fun (q : cd_S × cd_B × Int32 × Int32) => q.2.1) q).1 → p.2.2.2 ≤ (Sum.elim (fun (q : ((Int32 × cd_S × cd_B) ⊕ (cd_S × cd_B))) => Sum.elim (fun (p : (Int32 × cd_S × cd_B)) => p.2.2) (fun (t : cd_S × cd_B) => t.2) q) (fun (q : cd_S × cd_B × Int32 × Int32) => q.2.1) q).2 → f_X4_readPostfix_L9 n rec l1 j σ b l2 l3 = some q → hp_w D vwCl (hp_Tl cA) E (hp_A (cd_pic cA ad ca0 σ0) sz) ss H locs (cd_pic cA ad ca σ) → lv_has ls 5 [(0, .ref (ad 4 0)), (1, .int l1), (2, .int l2), (3, .int l3)] → (∀ t, q = Sum.inr t → (∀ (ca : Nat → Nat) (hj : cd_inj ad ca) (H : Heap) (locs : List Loc) (ls : Array Slot), t.2.1.1 ≤ b0.1 → t.2.1.2 ≤ b0.2 → hp_w D vwCl (hp_Tl cA) E (hp_A (cd_pic cA ad ca0 σ0) sz) ss H locs (cd_pic cA ad ca t.1) → lv_has ls 5 [] → W pp l ee ({ frames := (d + 1) + 16, cells := b0.1 - p.2.2.1, slots := b0.2 - p.2.2.2, locals := 26 * (d + 1) + 286 }) ss mm [.ref (ad 4 0), .int a1].toArray bb mt cd H locs (b0.1 - t.2.1.1) (b0.2 - t.2.1.2) (MQ bb (hp_Qv D vwCl (hp_Tl cA) sz (cd_pic cA ad ca0 σ0) (fun u => ∃ ca1, cd_inj ad ca1 ∧ u = cd_pic cA ad ca1 p.2.1)) [.ref (ad 4 0), .int a1].toArray ss (b0.1 - p.2.2.1) (b0.2 - p.2.2.2) (hp_A (cd_pic cA ad ca0 σ0) sz)) (F0 mm 87 ls []))) → (∀ r, q = Sum.inl r → r = Sum.inl p) → W pp l ee ({ frames := (d + 1) + 16, cells := b0.1 - p.2.2.1, slots := b0.2 - p.2.2.2, locals := 26 * (d + 1) + 286 }) ss mm [.ref (ad 4 0), .int a1].toArray bb mt cd H locs (b0.1 - b.1) (b0.2 - b.2) (MQ bb (hp_Qv D vwCl (hp_Tl cA) sz (cd_pic cA ad ca0 σ0) (fun u => ∃ ca1, cd_inj ad ca1 ∧ u = cd_pic cA ad ca1 p.2.1)) [.ref (ad 4 0), .int a1].toArray ss (b0.1 - p.2.2.1) (b0.2 - p.2.2.2) (hp_A (cd_pic cA ad ca0 σ0) sz)) (F0 mm 9 ls []) := by
      intro j
      induction j with
      | zero => intro ca hj σ b l1 l2 l3 q H locs ls hb1 hb2 hf1 hf2 hq1 hq2 h; exact nomatch h
      | succ j ih =>
        intro ca hj σ b l1 l2 l3 q H locs ls hb1 hb2 hf1 hf2 hq1 hq2 h hw hl K KR
        unfold f_X4_readPostfix_L9 at h
        have J81 : ∀ (ca : Nat → Nat) (hj : cd_inj ad ca) (σ : cd_S) (b : cd_B) (l2 : Int32) (l3 : Int32) (H : Heap) (locs : List Loc) (ls : Array Slot), b.1 ≤ b0.1 → b.2 ≤ b0.2 → p.2.2.1 ≤ b.1 → p.2.2.2 ≤ b.2 → f_X4_readPostfix_J81 n rec l1 (f_X4_readPostfix_L9 n rec l1 j) σ b l2 l3 = some q → hp_w D vwCl (hp_Tl cA) E (hp_A (cd_pic cA ad ca0 σ0) sz) ss H locs (cd_pic cA ad ca σ) → lv_has ls 5 [(0, .ref (ad 4 0)), (1, .int l1), (2, .int l2), (3, .int l3)] → W pp l ee ({ frames := (d + 1) + 16, cells := b0.1 - p.2.2.1, slots := b0.2 - p.2.2.2, locals := 26 * (d + 1) + 286 }) ss mm [.ref (ad 4 0), .int a1].toArray bb mt cd H locs (b0.1 - b.1) (b0.2 - b.2) (MQ bb (hp_Qv D vwCl (hp_Tl cA) sz (cd_pic cA ad ca0 σ0) (fun u => ∃ ca1, cd_inj ad ca1 ∧ u = cd_pic cA ad ca1 p.2.1)) [.ref (ad 4 0), .int a1].toArray ss (b0.1 - p.2.2.1) (b0.2 - p.2.2.2) (hp_A (cd_pic cA ad ca0 σ0) sz)) (F0 mm 81 ls []) := by
          intro ca hj σ b l2 l3 H locs ls hb1 hb2 hf1 hf2 h hw hl
          refine lv_iinc (v := (l3 + 1)) (lv' := [(3, .int (l3 + 1)), (0, .ref (ad 4 0)), (1, .int l1), (2, .int l2)]) cx.1 cx.2.1 dX4_readPostfix_81 hl (k := 3) rfl rfl (by decide) rfl (fun ls hl => ?_)
          refine lv_goto (tgt := 9) cx.1 cx.2.1 dX4_readPostfix_84 (by decide) ?_
          exact ih _ hj σ b l1 l2 ((l3 + 1)) q _ _ _ (by omega) (by omega) (by omega) (by omega) hq1 hq2 h hw (lv_sub hl [1, 2, 3, 0] rfl) K KR
        refine lv_iload_n cx.1 cx.2.1 dX4_readPostfix_9 rfl (lv_at hl 2 rfl) ?_
        refine lv_if_eq (tgt := 87) cx.1 cx.2.1 dX4_readPostfix_10 (by decide) (fun c10 => ?_) (fun c10 => ?_)
        · have h := md_ip c10 h
          exact K _ (Option.some.inj h).symm _ hj _ _ _ (by (try dsimp only); omega) (by (try dsimp only); omega) hw (lv_sub hl [] rfl)
        · have h := md_in c10 h
          refine lv_iload_n cx.1 cx.2.1 dX4_readPostfix_13 rfl (lv_at hl 3 rfl) ?_
          refine lv_sipush (v := 3000) cx.1 cx.2.1 dX4_readPostfix_14 (by decide) ?_
          refine lv_icmp_ge (tgt := 87) cx.1 cx.2.1 dX4_readPostfix_17 (by decide) (fun c17 => ?_) (fun c17 => ?_)
          · have h := md_ip c17 h
            exact K _ (Option.some.inj h).symm _ hj _ _ _ (by (try dsimp only); omega) (by (try dsimp only); omega) hw (lv_sub hl [] rfl)
          · have h := md_in c17 h
            refine lv_aload_n cx.1 cx.2.1 dX4_readPostfix_20 rfl (lv_at hl 0 rfl) ?_
            refine cd_gO (o2 := 10) (e2 := 0) (o := 4) (k := 0) (f := 128) hj cx hw hic4 rfl ⟨by decide, rfl, by decide, rfl⟩ rfl (by decide) ⟨rfl, rfl⟩ (List.mem_cons_of_mem _ cm_658) dX4_readPostfix_21 ?_
            refine cd_gI (o := 10) (k := 8) (f := 328) hj cx hw hic10 rfl ⟨by decide, rfl, by decide, rfl⟩ rfl (by decide) (List.mem_cons_of_mem _ cm_665) dX4_readPostfix_24 ?_
            refine lv_bipush (v := 46) cx.1 cx.2.1 dX4_readPostfix_27 (by decide) ?_
            refine lv_icmp_ne (tgt := 41) cx.1 cx.2.1 dX4_readPostfix_29 (by decide) (fun c29 => ?_) (fun c29 => ?_)
            · have h := md_in c29 h
              refine lv_aload_n cx.1 cx.2.1 dX4_readPostfix_41 rfl (lv_at hl 0 rfl) ?_
              refine cd_gO (o2 := 10) (e2 := 0) (o := 4) (k := 0) (f := 128) hj cx hw hic4 rfl ⟨by decide, rfl, by decide, rfl⟩ rfl (by decide) ⟨rfl, rfl⟩ (List.mem_cons_of_mem _ cm_658) dX4_readPostfix_42 ?_
              refine cd_gI (o := 10) (k := 8) (f := 328) hj cx hw hic10 rfl ⟨by decide, rfl, by decide, rfl⟩ rfl (by decide) (List.mem_cons_of_mem _ cm_665) dX4_readPostfix_45 ?_
              refine lv_bipush (v := 40) cx.1 cx.2.1 dX4_readPostfix_48 (by decide) ?_
              refine lv_icmp_ne (tgt := 79) cx.1 cx.2.1 dX4_readPostfix_50 (by decide) (fun c50 => ?_) (fun c50 => ?_)
              · have h := md_in c50 h
                refine lv_iconst (v := 0) cx.1 cx.2.1 dX4_readPostfix_79 (by decide) ?_
                refine lv_istore_n (lv' := [(2, .int 0), (0, .ref (ad 4 0)), (1, .int l1), (3, .int l3)]) cx.1 cx.2.1 dX4_readPostfix_80 rfl hl (by decide) rfl (fun ls hl => ?_)
                exact J81 _ hj σ b 0 l3 _ _ _ (by omega) (by omega) (by omega) (by omega) h hw (lv_sub hl [1, 2, 0, 3] rfl)
              · have h := md_ip c50 h
                refine lv_aload_n cx.1 cx.2.1 dX4_readPostfix_53 rfl (lv_at hl 0 rfl) ?_
                obtain ⟨q3, e_q3, h⟩ := md_ob h
                obtain ⟨hm4, hn4, h⟩ := cd_cks h
                have hM4 : p.2.2.1 ≤ (Sum.elim (fun (p : Int32 × cd_S × cd_B) => p.2.2) (fun (t : cd_S × cd_B) => t.2) q3).1 ∧ p.2.2.2 ≤ (Sum.elim (fun (p : Int32 × cd_S × cd_B) => p.2.2) (fun (t : cd_S × cd_B) => t.2) q3).2 := ⟨Nat.le_trans hq1 hm4, Nat.le_trans hq2 hn4⟩
                cases q3 with
                | inr t3 =>
                  exact nomatch KR _ (Option.some.inj h).symm
                | inl p3 =>
                  have hle3 := (kc_X4_part l D cA E sz ad _ hj oq sgq sgv hE n σ b  p3 e_q3).1
                  have hM10004 : p.2.2.1 ≤ p3.2.2.1 ∧ p.2.2.2 ≤ p3.2.2.2 := hM4
                  have h := cd_inl h
                  refine hp_callVv (As := []) (rest := []) cx hw ((kc_X4_part l D cA E _ ad _ hj oq sgq sgv hE n σ b  p3 e_q3).2) (cwV 0 cx.2.2.2.2.2.1 (cd_giV cm_764 cm_765 cm_766 cm_663 cm_767) rfl rfl rfl hdc_X4_part ⟨by (try dsimp only); omega, by (try dsimp only); omega⟩) (cd_atO hj (by decide) (by decide)) rfl rfl hl.1 rfl (Nat.le_of_ble_eq_true rfl) dX4_readPostfix_54 ⟨by (try dsimp only); omega, by (try dsimp only); omega⟩ (fun u H locs hp hw => ?_)
                  obtain ⟨ca, hj, rfl⟩ := hp
                  refine W.widen (k := b0.1 - p3.2.2.1) (n := b0.2 - p3.2.2.2) (by omega) (by omega) ?_
                  refine lv_aload_n cx.1 cx.2.1 dX4_readPostfix_57 rfl (lv_at hl 0 rfl) ?_
                  refine lv_iload_n cx.1 cx.2.1 dX4_readPostfix_58 rfl (lv_at hl 1 rfl) ?_
                  obtain ⟨q5, e_q5, h⟩ := md_ob h
                  obtain ⟨hm6, hn6, h⟩ := cd_cks h
                  have hM6 : p.2.2.1 ≤ (Sum.elim (fun (p : Int32 × cd_S × cd_B) => p.2.2) (fun (t : cd_S × cd_B) => t.2) q5).1 ∧ p.2.2.2 ≤ (Sum.elim (fun (p : Int32 × cd_S × cd_B) => p.2.2) (fun (t : cd_S × cd_B) => t.2) q5).2 := ⟨Nat.le_trans hq1 hm6, Nat.le_trans hq2 hn6⟩
                  cases q5 with
                  | inr t5 =>
                    exact nomatch KR _ (Option.some.inj h).symm
                  | inl p5 =>
                    have hle5 := (in15 sz _ hj p3.2.1 (p3.2.2) l1 p5 e_q5).1
                    have hM10006 : p.2.2.1 ≤ p5.2.2.1 ∧ p.2.2.2 ≤ p5.2.2.2 := hM6
                    have h := cd_inl h
                    refine hp_callVi (As := [.int l1]) (rest := []) cx hw ((in15 _ _ hj p3.2.1 (p3.2.2) l1 p5 e_q5).2) (cwV 1 cx.2.2.2.2.2.1 (cd_giV cm_875 cm_876 cm_877 cm_663 cm_878) rfl rfl rfl hdc_X4_readArguments ⟨by (try dsimp only); omega, by (try dsimp only); omega⟩) (cd_atO hj (by decide) (by decide)) rfl rfl hl.1 rfl (Nat.le_of_ble_eq_true rfl) dX4_readPostfix_59 ⟨by (try dsimp only); omega, by (try dsimp only); omega⟩ (fun r u H locs hp hw => ?_)
                    obtain ⟨rfl, ca, hj, rfl⟩ := hp
                    refine W.widen (k := b0.1 - p5.2.2.1) (n := b0.2 - p5.2.2.2) (by omega) (by omega) ?_
                    refine lv_istore (lv' := [(4, .int p5.1), (0, .ref (ad 4 0)), (1, .int l1), (2, .int l2), (3, .int l3)]) cx.1 cx.2.1 dX4_readPostfix_62 hl (by decide) rfl (fun ls hl => ?_)
                    refine lv_aload_n cx.1 cx.2.1 dX4_readPostfix_64 rfl (lv_at hl 1 rfl) ?_
                    obtain ⟨u7, e_u7, h⟩ := md_ob h
                    have hb_u7 : u7 < 60 := (cd_dps e_u7).2
                    refine cd_gP (o2 := 9) (u := u7) (o := 4) (k := 8) (f := 136) hj cx hw hic4 rfl ⟨by decide, rfl, by decide, rfl⟩ rfl (by decide) rfl e_u7 (List.mem_cons_of_mem _ cm_749) dX4_readPostfix_65 ?_
                    refine lv_bipush (v := 8) cx.1 cx.2.1 dX4_readPostfix_68 (by decide) ?_
                    refine lv_iload cx.1 cx.2.1 dX4_readPostfix_70 (lv_at hl 0 rfl) ?_
                    refine lv_iconst (v := 0) cx.1 cx.2.1 dX4_readPostfix_72 (by decide) ?_
                    obtain ⟨p8, e_p8, h⟩ := md_ob h
                    obtain ⟨hm9, hn9, h⟩ := cd_cks h
                    have hM9 : p.2.2.1 ≤ p8.2.2.1 ∧ p.2.2.2 ≤ p8.2.2.2 := ⟨Nat.le_trans hq1 hm9, Nat.le_trans hq2 hn9⟩
                    have hle8 := (kc_X9_emit l D cA E sz ad _ hj oq sgq sgv hE n p5.2.1 (p5.2.2) u7 (8 : Int32) (p5.1) (0 : Int32) (show _ < 60 by omega) p8 e_p8).1
                    refine hp_callVv (As := [.int 8, .int p5.1, .int 0]) (rest := []) cx hw ((kc_X9_emit l D cA E _ ad _ hj oq sgq sgv hE n p5.2.1 (p5.2.2) u7 (8 : Int32) (p5.1) (0 : Int32) (show _ < 60 by omega) p8 e_p8).2) (cwV 3 cx.2.2.2.2.2.1 (cd_giV cm_781 cm_782 cm_783 cm_114 cm_784) rfl rfl rfl hdc_X9_emit ⟨by (try dsimp only); omega, by (try dsimp only); omega⟩) (cd_atO hj (by decide) (show _ < 60 by omega)) rfl rfl hl.1 rfl (Nat.le_of_ble_eq_true rfl) dX4_readPostfix_73 ⟨by (try dsimp only); omega, by (try dsimp only); omega⟩ (fun u H locs hp hw => ?_)
                    obtain ⟨ca, hj, rfl⟩ := hp
                    refine W.widen (k := b0.1 - p8.2.2.1) (n := b0.2 - p8.2.2.2) (by omega) (by omega) ?_
                    refine lv_goto (tgt := 81) cx.1 cx.2.1 dX4_readPostfix_76 (by decide) ?_
                    exact J81 _ hj p8.2.1 (p8.2.2) l2 l3 _ _ _ (by omega) (by omega) (by omega) (by omega) h hw (lv_sub hl [1, 2, 3, 4] rfl)
            · have h := md_ip c29 h
              refine lv_aload_n cx.1 cx.2.1 dX4_readPostfix_32 rfl (lv_at hl 0 rfl) ?_
              refine lv_iload_n cx.1 cx.2.1 dX4_readPostfix_33 rfl (lv_at hl 1 rfl) ?_
              obtain ⟨q10, e_q10, h⟩ := md_ob h
              obtain ⟨hm11, hn11, h⟩ := cd_cks h
              have hM11 : p.2.2.1 ≤ (Sum.elim (fun (p : Int32 × cd_S × cd_B) => p.2.2) (fun (t : cd_S × cd_B) => t.2) q10).1 ∧ p.2.2.2 ≤ (Sum.elim (fun (p : Int32 × cd_S × cd_B) => p.2.2) (fun (t : cd_S × cd_B) => t.2) q10).2 := ⟨Nat.le_trans hq1 hm11, Nat.le_trans hq2 hn11⟩
              cases q10 with
              | inr t10 =>
                exact nomatch KR _ (Option.some.inj h).symm
              | inl p10 =>
                have hle10 := (in14 sz _ hj σ b l1 p10 e_q10).1
                have hM10011 : p.2.2.1 ≤ p10.2.2.1 ∧ p.2.2.2 ≤ p10.2.2.2 := hM11
                have h := cd_inl h
                refine hp_callVi (As := [.int l1]) (rest := []) cx hw ((in14 _ _ hj σ b l1 p10 e_q10).2) (cwV 1 cx.2.2.2.2.2.1 (cd_giV cm_883 cm_884 cm_885 cm_663 cm_886) rfl rfl rfl hdc_X4_readMember ⟨by (try dsimp only); omega, by (try dsimp only); omega⟩) (cd_atO hj (by decide) (by decide)) rfl rfl hl.1 rfl (Nat.le_of_ble_eq_true rfl) dX4_readPostfix_34 ⟨by (try dsimp only); omega, by (try dsimp only); omega⟩ (fun r u H locs hp hw => ?_)
                obtain ⟨rfl, ca, hj, rfl⟩ := hp
                refine W.widen (k := b0.1 - p10.2.2.1) (n := b0.2 - p10.2.2.2) (by omega) (by omega) ?_
                refine lv_istore_n (lv' := [(2, .int p10.1), (0, .ref (ad 4 0)), (1, .int l1), (3, .int l3)]) cx.1 cx.2.1 dX4_readPostfix_37 rfl hl (by decide) rfl (fun ls hl => ?_)
                refine lv_goto (tgt := 81) cx.1 cx.2.1 dX4_readPostfix_38 (by decide) ?_
                exact J81 _ hj p10.2.1 (p10.2.2) (p10.1) l3 _ _ _ (by omega) (by omega) (by omega) (by omega) h hw (lv_sub hl [1, 2, 0, 3] rfl)
    obtain ⟨q12, e_q12, h⟩ := md_ob h
    obtain ⟨hm13, hn13, h⟩ := cd_cks h
    have hM13 : p.2.2.1 ≤ (Sum.elim (fun (q : ((Int32 × cd_S × cd_B) ⊕ (cd_S × cd_B))) => Sum.elim (fun (p : (Int32 × cd_S × cd_B)) => p.2.2) (fun (t : cd_S × cd_B) => t.2) q) (fun (q : cd_S × cd_B × Int32 × Int32) => q.2.1) q12).1 ∧ p.2.2.2 ≤ (Sum.elim (fun (q : ((Int32 × cd_S × cd_B) ⊕ (cd_S × cd_B))) => Sum.elim (fun (p : (Int32 × cd_S × cd_B)) => p.2.2) (fun (t : cd_S × cd_B) => t.2) q) (fun (q : cd_S × cd_B × Int32 × Int32) => q.2.1) q12).2 := ⟨hm13, hn13⟩
    refine L9 n _ hj p1.2.1 (p1.2.2) a1 1 0 q12 _ _ _ (by omega) (by omega) (by omega) (by omega) hM13.1 hM13.2 e_q12 hw (lv_sub hl [2, 3, 1, 0] rfl) (fun t12 hq12 ca hj H locs ls hb1 hb2 hw hl => ?_) (fun r hr => by subst hr; exact Option.some.inj h)
    subst hq12
    have h := md_inr h
    have hS13 : p.2.2.1 ≤ t12.2.1.1 ∧ p.2.2.2 ≤ t12.2.1.2 := hM13
    exact hp_vret cx hw ((cd_retb hj (congrArg some (Sum.inl.inj (Option.some.inj h)))).2) dX4_readPostfix_87 (cd_le1 (congrArg some (Sum.inl.inj (Option.some.inj h)))) (cd_le2 (congrArg some (Sum.inl.inj (Option.some.inj h))))
set_option maxHeartbeats 4000000 in
set_option maxRecDepth 100000 in
theorem kc_X4_openLimit (l : Launch) (D : va_G) (cA : Nat → ClassId) (E : hp_N) (sz : Nat) (ad : Nat → Nat → Nat) (ca0 : Nat → Nat) (hj : cd_inj ad ca0) (oq sgq sgv : Nat) (hE : cd_E E oq sgq sgv) (n : Nat) (σ0 : cd_S) (b0 : cd_B) (a1 : Nat) (hb_a1 : a1 < 60) (p : (Int32 × cd_S × cd_B)) (h : f_X4_openLimit n σ0 b0 a1 = some (Sum.inl p)) : (p.2.2.1 ≤ b0.1 ∧ p.2.2.2 ≤ b0.2) ∧ Met l yX4_openLimit (Cond.code yX4_openLimit cX4_openLimit 2 none :: v_CLS) ({ frames := 14, cells := b0.1 - p.2.2.1, slots := b0.2 - p.2.2.2, locals := 243 }) (hp_Pc D vwCl (hp_Tl cA) E sz (cd_pic cA ad ca0 σ0) [.ref (ad 4 0), .ref (ad 9 a1)]) (hp_Qv D vwCl (hp_Tl cA) sz (cd_pic cA ad ca0 σ0) (fun u => ∃ ca1, cd_inj ad ca1 ∧ u = cd_pic cA ad ca1 p.2.1)) (b0.1 - p.2.2.1) (b0.2 - p.2.2.2) (hp_A (cd_pic cA ad ca0 σ0) sz) := by
  obtain ⟨hm0, hn0, h⟩ := cd_cks h
  have hM0 : p.2.2.1 ≤ b0.1 ∧ p.2.2.2 ≤ b0.2 := ⟨hm0, hn0⟩
  refine ⟨hM0, ?_⟩
  refine hp_ofW (cc := cX4_openLimit) (maxL := 2) (ret := none) (by decide) rfl (Nat.le_of_ble_eq_true rfl) ?_
  intro pp ee ss mm bb mt cd ls cx hsz hw hl
  have hl : lv_has ls 2 [(0, .ref (ad 4 0)), (1, .ref (ad 9 a1))] := hl
  refine W.widen (k := b0.1 - b0.1) (n := b0.2 - b0.2) (Nat.zero_le _) (Nat.zero_le _) ?_
  have J18 : ∀ (ca : Nat → Nat) (hj : cd_inj ad ca) (σ : cd_S) (b : cd_B) (t0 : Int32) (H : Heap) (locs : List Loc) (ls : Array Slot), b.1 ≤ b0.1 → b.2 ≤ b0.2 → p.2.2.1 ≤ b.1 → p.2.2.2 ≤ b.2 → f_X4_openLimit_J18 n a1 σ b t0 = some (Sum.inl p) → hp_w D vwCl (hp_Tl cA) E (hp_A (cd_pic cA ad ca0 σ0) sz) ss H locs (cd_pic cA ad ca σ) → lv_has ls 2 [(0, .ref (ad 4 0)), (1, .ref (ad 9 a1))] → W pp l ee ({ frames := 14, cells := b0.1 - p.2.2.1, slots := b0.2 - p.2.2.2, locals := 243 }) ss mm [.ref (ad 4 0), .ref (ad 9 a1)].toArray bb mt cd H locs (b0.1 - b.1) (b0.2 - b.2) (MQ bb (hp_Qv D vwCl (hp_Tl cA) sz (cd_pic cA ad ca0 σ0) (fun u => ∃ ca1, cd_inj ad ca1 ∧ u = cd_pic cA ad ca1 p.2.1)) [.ref (ad 4 0), .ref (ad 9 a1)].toArray ss (b0.1 - p.2.2.1) (b0.2 - p.2.2.2) (hp_A (cd_pic cA ad ca0 σ0) sz)) (F0 mm 18 ls [.int t0, .ref (ad 4 0)]) := by
    intro ca hj σ b t0 H locs ls hb1 hb2 hf1 hf2 h hw hl
    obtain ⟨q1, e_q1, h⟩ := md_ob h
    obtain ⟨hm2, hn2, h⟩ := cd_cks h
    have hM2 : p.2.2.1 ≤ (Sum.elim (fun (p : Int32 × cd_S × cd_B) => p.2.2) (fun (t : cd_S × cd_B) => t.2) q1).1 ∧ p.2.2.2 ≤ (Sum.elim (fun (p : Int32 × cd_S × cd_B) => p.2.2) (fun (t : cd_S × cd_B) => t.2) q1).2 := ⟨hm2, hn2⟩
    cases q1 with
    | inr t1 =>
      exact nomatch Option.some.inj h
    | inl p1 =>
      have hle1 := (kc_X4_room l D cA E sz ad _ hj oq sgq sgv hE n σ b t0 p1 e_q1).1
      have hM10002 : p.2.2.1 ≤ p1.2.2.1 ∧ p.2.2.2 ≤ p1.2.2.2 := hM2
      have h := cd_inl h
      refine hp_callVv (As := [.int t0]) (rest := []) cx hw ((kc_X4_room l D cA E _ ad _ hj oq sgq sgv hE n σ b t0 p1 e_q1).2) (cwV 1 cx.2.2.2.2.2.1 (cd_giV cm_691 cm_692 cm_693 cm_663 cm_694) rfl rfl rfl hdc_X4_room ⟨Nat.le_of_ble_eq_true rfl, Nat.le_of_ble_eq_true rfl⟩) (cd_atO hj (by decide) (by decide)) rfl rfl hl.1 rfl (Nat.le_of_ble_eq_true rfl) dX4_openLimit_18 ⟨by (try dsimp only); omega, by (try dsimp only); omega⟩ (fun u H locs hp hw => ?_)
      obtain ⟨ca, hj, rfl⟩ := hp
      refine W.widen (k := b0.1 - p1.2.2.1) (n := b0.2 - p1.2.2.2) (by omega) (by omega) ?_
      refine lv_aload_n cx.1 cx.2.1 dX4_openLimit_21 rfl (lv_at hl 1 rfl) ?_
      refine lv_iconst (v := 3) cx.1 cx.2.1 dX4_openLimit_22 (by decide) ?_
      obtain ⟨σ3, e_σ3, h⟩ := md_ob h
      refine cd_pI (o := 9) (k := 1) (f := 289) hj cx hw hic9 rfl ⟨by decide, rfl, by decide, rfl⟩ tyX9_ok nmX9 rfl (show _ < 60 by omega) rfl (List.mem_cons_of_mem _ cm_888) rfl e_σ3 dX4_openLimit_23 (fun H locs hw => ?_)
      refine lv_aload_n cx.1 cx.2.1 dX4_openLimit_26 rfl (lv_at hl 1 rfl) ?_
      refine lv_aload_n cx.1 cx.2.1 dX4_openLimit_27 rfl (lv_at hl 0 rfl) ?_
      refine cd_gO (o2 := 3) (e2 := 0) (o := 4) (k := 2) (f := 130) hj cx hw hic4 rfl ⟨by decide, rfl, by decide, rfl⟩ rfl (by decide) ⟨rfl, rfl⟩ (List.mem_cons_of_mem _ cm_701) dX4_openLimit_28 ?_
      refine cd_gI (o := 3) (k := 11) (f := 107) hj cx hw hic3 rfl ⟨by decide, rfl, by decide, rfl⟩ rfl (by decide) (List.mem_cons_of_mem _ cm_887) dX4_openLimit_31 ?_
      obtain ⟨σ4, e_σ4, h⟩ := md_ob h
      refine cd_pI (o := 9) (k := 8) (f := 296) hj cx hw hic9 rfl ⟨by decide, rfl, by decide, rfl⟩ tyX9_ok nmX9 rfl (show _ < 60 by omega) rfl (List.mem_cons_of_mem _ cm_889) rfl e_σ4 dX4_openLimit_34 (fun H locs hw => ?_)
      refine lv_aload_n cx.1 cx.2.1 dX4_openLimit_37 rfl (lv_at hl 0 rfl) ?_
      refine cd_gO (o2 := 3) (e2 := 0) (o := 4) (k := 2) (f := 130) hj cx hw hic4 rfl ⟨by decide, rfl, by decide, rfl⟩ rfl (by decide) ⟨rfl, rfl⟩ (List.mem_cons_of_mem _ cm_701) dX4_openLimit_38 ?_
      obtain ⟨p5, e_p5, h⟩ := md_ob h
      refine hp_callVv (As := []) (rest := []) cx hw (kc_X3_addLimit l D cA E _ ad _ hj oq sgq sgv hE n σ4  p5 e_p5) (cwV 0 cx.2.2.2.2.2.1 (cd_giV cm_890 cm_891 cm_892 cm_332 cm_893) rfl rfl rfl hdc_X3_addLimit ⟨Nat.le_of_ble_eq_true rfl, Nat.le_of_ble_eq_true rfl⟩) (cd_atO hj (by decide) (by decide)) rfl rfl hl.1 rfl (Nat.le_of_ble_eq_true rfl) dX4_openLimit_41 ⟨by (try dsimp only); omega, by (try dsimp only); omega⟩ (fun u H locs hp hw => ?_)
      obtain ⟨ca, hj, rfl⟩ := hp
      exact hp_vret cx hw ((cd_retb hj (congrArg some (Sum.inl.inj (Option.some.inj h)))).2) dX4_openLimit_44 (cd_le1 (congrArg some (Sum.inl.inj (Option.some.inj h)))) (cd_le2 (congrArg some (Sum.inl.inj (Option.some.inj h))))
  refine lv_aload_n cx.1 cx.2.1 dX4_openLimit_0 rfl (lv_at hl 0 rfl) ?_
  refine lv_aload_n cx.1 cx.2.1 dX4_openLimit_1 rfl (lv_at hl 0 rfl) ?_
  refine cd_gO (o2 := 3) (e2 := 0) (o := 4) (k := 2) (f := 130) hj cx hw hic4 rfl ⟨by decide, rfl, by decide, rfl⟩ rfl (by decide) ⟨rfl, rfl⟩ (List.mem_cons_of_mem _ cm_701) dX4_openLimit_2 ?_
  refine cd_gI (o := 3) (k := 11) (f := 107) hj cx hw hic3 rfl ⟨by decide, rfl, by decide, rfl⟩ rfl (by decide) (List.mem_cons_of_mem _ cm_887) dX4_openLimit_5 ?_
  refine lv_bipush (v := 12) cx.1 cx.2.1 dX4_openLimit_8 (by decide) ?_
  refine lv_icmp_ge (tgt := 17) cx.1 cx.2.1 dX4_openLimit_10 (by decide) (fun c10 => ?_) (fun c10 => ?_)
  · have h := md_ip c10 h
    refine lv_iconst (v := 0) cx.1 cx.2.1 dX4_openLimit_17 (by decide) ?_
    exact J18 _ hj σ0 b0 0 _ _ _ (by omega) (by omega) (by omega) (by omega) h hw (lv_sub hl [0, 1] rfl)
  · have h := md_in c10 h
    refine lv_iconst (v := 1) cx.1 cx.2.1 dX4_openLimit_13 (by decide) ?_
    refine lv_goto (tgt := 18) cx.1 cx.2.1 dX4_openLimit_14 (by decide) ?_
    exact J18 _ hj σ0 b0 1 _ _ _ (by omega) (by omega) (by omega) (by omega) h hw (lv_sub hl [0, 1] rfl)
set_option maxHeartbeats 4000000 in
set_option maxRecDepth 100000 in
theorem kc_X4_readPriv (l : Launch) (D : va_G) (cA : Nat → ClassId) (E : hp_N) (sz : Nat) (ad : Nat → Nat → Nat) (ca0 : Nat → Nat) (hj : cd_inj ad ca0) (oq sgq sgv : Nat) (hE : cd_E E oq sgq sgv) (n d : Nat) (rec : cd_R) (in8 : ∀ (sz : Nat) (ca : Nat → Nat) (_ : cd_inj ad ca) (σ : cd_S) (b : cd_B) (a1 : Int32) (p : Int32 × cd_S × cd_B), rec 8 0 a1 0 σ b = some (Sum.inl p) → (p.2.2.1 ≤ b.1 ∧ p.2.2.2 ≤ b.2) ∧ Met l yX4_readInnerPrefix (Cond.code yX4_readInnerPrefix cX4_readInnerPrefix 2 none :: v_CLS) ({ frames := d + 16, cells := b.1 - p.2.2.1, slots := b.2 - p.2.2.2, locals := 26 * d + 286 }) (hp_Pc D vwCl (hp_Tl cA) E sz (cd_pic cA ad ca σ) [.ref (ad 4 0), .int a1]) (hp_Qv D vwCl (hp_Tl cA) sz (cd_pic cA ad ca σ) (fun u => ∃ ca1, cd_inj ad ca1 ∧ u = cd_pic cA ad ca1 p.2.1)) (b.1 - p.2.2.1) (b.2 - p.2.2.2) (hp_A (cd_pic cA ad ca σ) sz)) (σ0 : cd_S) (b0 : cd_B) (a1 : Int32) (p : (Int32 × cd_S × cd_B)) (h : f_X4_readPriv n rec σ0 b0 a1 = some (Sum.inl p)) : (p.2.2.1 ≤ b0.1 ∧ p.2.2.2 ≤ b0.2) ∧ Met l yX4_readPriv (Cond.code yX4_readPriv cX4_readPriv 5 none :: v_CLS) ({ frames := (d + 1) + 16, cells := b0.1 - p.2.2.1, slots := b0.2 - p.2.2.2, locals := 26 * (d + 1) + 286 }) (hp_Pc D vwCl (hp_Tl cA) E sz (cd_pic cA ad ca0 σ0) [.ref (ad 4 0), .int a1]) (hp_Qv D vwCl (hp_Tl cA) sz (cd_pic cA ad ca0 σ0) (fun u => ∃ ca1, cd_inj ad ca1 ∧ u = cd_pic cA ad ca1 p.2.1)) (b0.1 - p.2.2.1) (b0.2 - p.2.2.2) (hp_A (cd_pic cA ad ca0 σ0) sz) := by
  obtain ⟨hm0, hn0, h⟩ := cd_cks h
  have hM0 : p.2.2.1 ≤ b0.1 ∧ p.2.2.2 ≤ b0.2 := ⟨hm0, hn0⟩
  refine ⟨hM0, ?_⟩
  refine hp_ofW (cc := cX4_readPriv) (maxL := 5) (ret := none) (by decide) rfl (Nat.le_of_ble_eq_true rfl) ?_
  intro pp ee ss mm bb mt cd ls cx hsz hw hl
  have hl : lv_has ls 5 [(0, .ref (ad 4 0)), (1, .int a1)] := hl
  refine W.widen (k := b0.1 - b0.1) (n := b0.2 - b0.2) (Nat.zero_le _) (Nat.zero_le _) ?_
  have J110 : ∀ (ca : Nat → Nat) (hj : cd_inj ad ca) (σ : cd_S) (b : cd_B) (l1 : Int32) (l2 : Nat) (H : Heap) (locs : List Loc) (ls : Array Slot), l2 < 60 → b.1 ≤ b0.1 → b.2 ≤ b0.2 → p.2.2.1 ≤ b.1 → p.2.2.2 ≤ b.2 → f_X4_readPriv_J110 n rec σ b l1 l2 = some (Sum.inl p) → hp_w D vwCl (hp_Tl cA) E (hp_A (cd_pic cA ad ca0 σ0) sz) ss H locs (cd_pic cA ad ca σ) → lv_has ls 5 [(0, .ref (ad 4 0)), (1, .int l1), (2, .ref (ad 9 l2))] → W pp l ee ({ frames := (d + 1) + 16, cells := b0.1 - p.2.2.1, slots := b0.2 - p.2.2.2, locals := 26 * (d + 1) + 286 }) ss mm [.ref (ad 4 0), .int a1].toArray bb mt cd H locs (b0.1 - b.1) (b0.2 - b.2) (MQ bb (hp_Qv D vwCl (hp_Tl cA) sz (cd_pic cA ad ca0 σ0) (fun u => ∃ ca1, cd_inj ad ca1 ∧ u = cd_pic cA ad ca1 p.2.1)) [.ref (ad 4 0), .int a1].toArray ss (b0.1 - p.2.2.1) (b0.2 - p.2.2.2) (hp_A (cd_pic cA ad ca0 σ0) sz)) (F0 mm 110 ls []) := by
    intro ca hj σ b l1 l2 H locs ls hb_l2 hb1 hb2 hf1 hf2 h hw hl
    refine lv_aload_n cx.1 cx.2.1 dX4_readPriv_110 rfl (lv_at hl 0 rfl) ?_
    refine lv_aload_n cx.1 cx.2.1 dX4_readPriv_111 rfl (lv_at hl 2 rfl) ?_
    obtain ⟨σ1, e_σ1, h⟩ := md_ob h
    refine cd_pP (u := l2) (o2 := 9) (o := 4) (k := 8) (f := 136) hj cx hw hic4 rfl ⟨by decide, rfl, by decide, rfl⟩ tyX4_ok nmX4 rfl (by decide) rfl (List.mem_cons_of_mem _ cm_749) rfl rfl e_σ1 dX4_readPriv_112 (fun H locs hw => ?_)
    refine lv_aload_n cx.1 cx.2.1 dX4_readPriv_115 rfl (lv_at hl 0 rfl) ?_
    refine lv_iload_n cx.1 cx.2.1 dX4_readPriv_116 rfl (lv_at hl 1 rfl) ?_
    refine lv_iconst (v := 1) cx.1 cx.2.1 dX4_readPriv_117 (by decide) ?_
    refine lv_iadd cx.1 cx.2.1 dX4_readPriv_118 ?_
    obtain ⟨q2, e_q2, h⟩ := md_ob h
    obtain ⟨hm3, hn3, h⟩ := cd_cks h
    have hM3 : p.2.2.1 ≤ (Sum.elim (fun (p : Int32 × cd_S × cd_B) => p.2.2) (fun (t : cd_S × cd_B) => t.2) q2).1 ∧ p.2.2.2 ≤ (Sum.elim (fun (p : Int32 × cd_S × cd_B) => p.2.2) (fun (t : cd_S × cd_B) => t.2) q2).2 := ⟨hm3, hn3⟩
    cases q2 with
    | inr t2 =>
      exact nomatch Option.some.inj h
    | inl p2 =>
      have hle2 := (in8 sz _ hj σ1 b ((l1 + 1)) p2 e_q2).1
      have hM10003 : p.2.2.1 ≤ p2.2.2.1 ∧ p.2.2.2 ≤ p2.2.2.2 := hM3
      have h := cd_inl h
      refine hp_callVv (As := [.int (l1 + 1)]) (rest := []) cx hw ((in8 _ _ hj σ1 b ((l1 + 1)) p2 e_q2).2) (cwV 1 cx.2.2.2.2.2.1 (cd_giV cm_871 cm_872 cm_873 cm_663 cm_874) rfl rfl rfl hdc_X4_readInnerPrefix ⟨by (try dsimp only); omega, by (try dsimp only); omega⟩) (cd_atO hj (by decide) (by decide)) rfl rfl hl.1 rfl (Nat.le_of_ble_eq_true rfl) dX4_readPriv_119 ⟨by (try dsimp only); omega, by (try dsimp only); omega⟩ (fun u H locs hp hw => ?_)
      obtain ⟨ca, hj, rfl⟩ := hp
      refine W.widen (k := b0.1 - p2.2.2.1) (n := b0.2 - p2.2.2.2) (by omega) (by omega) ?_
      refine lv_aload_n cx.1 cx.2.1 dX4_readPriv_122 rfl (lv_at hl 0 rfl) ?_
      refine lv_aload_n cx.1 cx.2.1 dX4_readPriv_123 rfl (lv_at hl 2 rfl) ?_
      refine lv_bipush (v := 10) cx.1 cx.2.1 dX4_readPriv_124 (by decide) ?_
      obtain ⟨p4, e_p4, h⟩ := md_ob h
      obtain ⟨hm5, hn5, h⟩ := cd_cks h
      have hM5 : p.2.2.1 ≤ p4.2.2.1 ∧ p.2.2.2 ≤ p4.2.2.2 := ⟨hm5, hn5⟩
      have hle4 := (kc_X4_closeInner l D cA E sz ad _ hj oq sgq sgv hE n p2.2.1 (p2.2.2) l2 (10 : Int32) (show _ < 60 by omega) p4 e_p4).1
      refine hp_callVv (As := [.ref (ad 9 l2), .int 10]) (rest := []) cx hw ((kc_X4_closeInner l D cA E _ ad _ hj oq sgq sgv hE n p2.2.1 (p2.2.2) l2 (10 : Int32) (show _ < 60 by omega) p4 e_p4).2) (cwV 2 cx.2.2.2.2.2.1 (cd_giV cm_819 cm_820 cm_821 cm_663 cm_822) rfl rfl rfl hdc_X4_closeInner ⟨by (try dsimp only); omega, by (try dsimp only); omega⟩) (cd_atO hj (by decide) (by decide)) rfl rfl hl.1 rfl (Nat.le_of_ble_eq_true rfl) dX4_readPriv_126 ⟨by (try dsimp only); omega, by (try dsimp only); omega⟩ (fun u H locs hp hw => ?_)
      obtain ⟨ca, hj, rfl⟩ := hp
      refine W.widen (k := b0.1 - p4.2.2.1) (n := b0.2 - p4.2.2.2) (by omega) (by omega) ?_
      exact hp_vret cx hw ((cd_retb hj (congrArg some (Sum.inl.inj (Option.some.inj h)))).2) dX4_readPriv_129 (cd_le1 (congrArg some (Sum.inl.inj (Option.some.inj h)))) (cd_le2 (congrArg some (Sum.inl.inj (Option.some.inj h))))
  have J44 : ∀ (ca : Nat → Nat) (hj : cd_inj ad ca) (σ : cd_S) (b : cd_B) (l1 : Int32) (l2 : Nat) (l3 : Int32) (H : Heap) (locs : List Loc) (ls : Array Slot), l2 < 60 → b.1 ≤ b0.1 → b.2 ≤ b0.2 → p.2.2.1 ≤ b.1 → p.2.2.2 ≤ b.2 → f_X4_readPriv_J44 n rec σ b l1 l2 l3 = some (Sum.inl p) → hp_w D vwCl (hp_Tl cA) E (hp_A (cd_pic cA ad ca0 σ0) sz) ss H locs (cd_pic cA ad ca σ) → lv_has ls 5 [(0, .ref (ad 4 0)), (1, .int l1), (2, .ref (ad 9 l2)), (3, .int l3)] → W pp l ee ({ frames := (d + 1) + 16, cells := b0.1 - p.2.2.1, slots := b0.2 - p.2.2.2, locals := 26 * (d + 1) + 286 }) ss mm [.ref (ad 4 0), .int a1].toArray bb mt cd H locs (b0.1 - b.1) (b0.2 - b.2) (MQ bb (hp_Qv D vwCl (hp_Tl cA) sz (cd_pic cA ad ca0 σ0) (fun u => ∃ ca1, cd_inj ad ca1 ∧ u = cd_pic cA ad ca1 p.2.1)) [.ref (ad 4 0), .int a1].toArray ss (b0.1 - p.2.2.1) (b0.2 - p.2.2.2) (hp_A (cd_pic cA ad ca0 σ0) sz)) (F0 mm 44 ls []) := by
    intro ca hj σ b l1 l2 l3 H locs ls hb_l2 hb1 hb2 hf1 hf2 h hw hl
    refine lv_iconst (v := 0) cx.1 cx.2.1 dX4_readPriv_44 (by decide) ?_
    refine lv_istore (lv' := [(4, .int 0), (0, .ref (ad 4 0)), (1, .int l1), (2, .ref (ad 9 l2)), (3, .int l3)]) cx.1 cx.2.1 dX4_readPriv_45 hl (by decide) rfl (fun ls hl => ?_)
    have L47 : ∀ (j : Nat) (ca : Nat → Nat) (hj : cd_inj ad ca) (σ : cd_S) (b : cd_B) (l1 : Int32) (l2 : Nat) (l3 : Int32) (l4 : Int32) (q : (((Int32 × cd_S × cd_B) ⊕ (cd_S × cd_B)) ⊕ (cd_S × cd_B × Int32 × Int32))) (H : Heap) (locs : List Loc) (ls : Array Slot), l2 < 60 → b.1 ≤ b0.1 → b.2 ≤ b0.2 → p.2.2.1 ≤ b.1 → p.2.2.2 ≤ b.2 → p.2.2.1 ≤ (Sum.elim (fun (q : ((Int32 × cd_S × cd_B) ⊕ (cd_S × cd_B))) => Sum.elim (fun (p : (Int32 × cd_S × cd_B)) => p.2.2) (fun (t : cd_S × cd_B) => t.2) q) (fun (q : cd_S × cd_B × Int32 × Int32) => q.2.1) q).1 → p.2.2.2 ≤ (Sum.elim (fun (q : ((Int32 × cd_S × cd_B) ⊕ (cd_S × cd_B))) => Sum.elim (fun (p : (Int32 × cd_S × cd_B)) => p.2.2) (fun (t : cd_S × cd_B) => t.2) q) (fun (q : cd_S × cd_B × Int32 × Int32) => q.2.1) q).2 → f_X4_readPriv_L47 n rec l1 l2 j σ b l3 l4 = some q → hp_w D vwCl (hp_Tl cA) E (hp_A (cd_pic cA ad ca0 σ0) sz) ss H locs (cd_pic cA ad ca σ) → lv_has ls 5 [(0, .ref (ad 4 0)), (1, .int l1), (2, .ref (ad 9 l2)), (3, .int l3), (4, .int l4)] → (∀ t, q = Sum.inr t → (∀ (ca : Nat → Nat) (hj : cd_inj ad ca) (H : Heap) (locs : List Loc) (ls : Array Slot), t.2.1.1 ≤ b0.1 → t.2.1.2 ≤ b0.2 → hp_w D vwCl (hp_Tl cA) E (hp_A (cd_pic cA ad ca0 σ0) sz) ss H locs (cd_pic cA ad ca t.1) → lv_has ls 5 [(0, .ref (ad 4 0)), (1, .int l1), (2, .ref (ad 9 l2))] → W pp l ee ({ frames := (d + 1) + 16, cells := b0.1 - p.2.2.1, slots := b0.2 - p.2.2.2, locals := 26 * (d + 1) + 286 }) ss mm [.ref (ad 4 0), .int a1].toArray bb mt cd H locs (b0.1 - t.2.1.1) (b0.2 - t.2.1.2) (MQ bb (hp_Qv D vwCl (hp_Tl cA) sz (cd_pic cA ad ca0 σ0) (fun u => ∃ ca1, cd_inj ad ca1 ∧ u = cd_pic cA ad ca1 p.2.1)) [.ref (ad 4 0), .int a1].toArray ss (b0.1 - p.2.2.1) (b0.2 - p.2.2.2) (hp_A (cd_pic cA ad ca0 σ0) sz)) (F0 mm 96 ls []))) → (∀ r, q = Sum.inl r → r = Sum.inl p) → W pp l ee ({ frames := (d + 1) + 16, cells := b0.1 - p.2.2.1, slots := b0.2 - p.2.2.2, locals := 26 * (d + 1) + 286 }) ss mm [.ref (ad 4 0), .int a1].toArray bb mt cd H locs (b0.1 - b.1) (b0.2 - b.2) (MQ bb (hp_Qv D vwCl (hp_Tl cA) sz (cd_pic cA ad ca0 σ0) (fun u => ∃ ca1, cd_inj ad ca1 ∧ u = cd_pic cA ad ca1 p.2.1)) [.ref (ad 4 0), .int a1].toArray ss (b0.1 - p.2.2.1) (b0.2 - p.2.2.2) (hp_A (cd_pic cA ad ca0 σ0) sz)) (F0 mm 47 ls []) := by
      intro j
      induction j with
      | zero => intro ca hj σ b l1 l2 l3 l4 q H locs ls hb_l2 hb1 hb2 hf1 hf2 hq1 hq2 h; exact nomatch h
      | succ j ih =>
        intro ca hj σ b l1 l2 l3 l4 q H locs ls hb_l2 hb1 hb2 hf1 hf2 hq1 hq2 h hw hl K KR
        unfold f_X4_readPriv_L47 at h
        have J89 : ∀ (ca : Nat → Nat) (hj : cd_inj ad ca) (σ : cd_S) (b : cd_B) (l4 : Int32) (t0 : Int32) (H : Heap) (locs : List Loc) (ls : Array Slot), b.1 ≤ b0.1 → b.2 ≤ b0.2 → p.2.2.1 ≤ b.1 → p.2.2.2 ≤ b.2 → f_X4_readPriv_J89 n rec l1 l2 (f_X4_readPriv_L47 n rec l1 l2 j) σ b l4 t0 = some q → hp_w D vwCl (hp_Tl cA) E (hp_A (cd_pic cA ad ca0 σ0) sz) ss H locs (cd_pic cA ad ca σ) → lv_has ls 5 [(0, .ref (ad 4 0)), (1, .int l1), (2, .ref (ad 9 l2)), (4, .int l4)] → W pp l ee ({ frames := (d + 1) + 16, cells := b0.1 - p.2.2.1, slots := b0.2 - p.2.2.2, locals := 26 * (d + 1) + 286 }) ss mm [.ref (ad 4 0), .int a1].toArray bb mt cd H locs (b0.1 - b.1) (b0.2 - b.2) (MQ bb (hp_Qv D vwCl (hp_Tl cA) sz (cd_pic cA ad ca0 σ0) (fun u => ∃ ca1, cd_inj ad ca1 ∧ u = cd_pic cA ad ca1 p.2.1)) [.ref (ad 4 0), .int a1].toArray ss (b0.1 - p.2.2.1) (b0.2 - p.2.2.2) (hp_A (cd_pic cA ad ca0 σ0) sz)) (F0 mm 89 ls [.int t0]) := by
          intro ca hj σ b l4 t0 H locs ls hb1 hb2 hf1 hf2 h hw hl
          refine lv_istore_n (lv' := [(3, .int t0), (0, .ref (ad 4 0)), (1, .int l1), (2, .ref (ad 9 l2)), (4, .int l4)]) cx.1 cx.2.1 dX4_readPriv_89 rfl hl (by decide) rfl (fun ls hl => ?_)
          refine lv_iinc (v := (l4 + 1)) (lv' := [(4, .int (l4 + 1)), (3, .int t0), (0, .ref (ad 4 0)), (1, .int l1), (2, .ref (ad 9 l2))]) cx.1 cx.2.1 dX4_readPriv_90 hl (k := 4) rfl rfl (by decide) rfl (fun ls hl => ?_)
          refine lv_goto (tgt := 47) cx.1 cx.2.1 dX4_readPriv_93 (by decide) ?_
          exact ih _ hj σ b l1 l2 t0 ((l4 + 1)) q _ _ _ (by omega) (by omega) (by omega) (by omega) (by omega) hq1 hq2 h hw (lv_sub hl [2, 3, 4, 1, 0] rfl) K KR
        refine lv_iload_n cx.1 cx.2.1 dX4_readPriv_47 rfl (lv_at hl 3 rfl) ?_
        refine lv_if_eq (tgt := 96) cx.1 cx.2.1 dX4_readPriv_48 (by decide) (fun c48 => ?_) (fun c48 => ?_)
        · have h := md_ip c48 h
          exact K _ (Option.some.inj h).symm _ hj _ _ _ (by (try dsimp only); omega) (by (try dsimp only); omega) hw (lv_sub hl [0, 1, 2] rfl)
        · have h := md_in c48 h
          refine lv_iload cx.1 cx.2.1 dX4_readPriv_51 (lv_at hl 4 rfl) ?_
          refine lv_bipush (v := 8) cx.1 cx.2.1 dX4_readPriv_53 (by decide) ?_
          refine lv_icmp_gt (tgt := 96) cx.1 cx.2.1 dX4_readPriv_55 (by decide) (fun c55 => ?_) (fun c55 => ?_)
          · have h := md_ip c55 h
            exact K _ (Option.some.inj h).symm _ hj _ _ _ (by (try dsimp only); omega) (by (try dsimp only); omega) hw (lv_sub hl [0, 1, 2] rfl)
          · have h := md_in c55 h
            refine lv_aload_n cx.1 cx.2.1 dX4_readPriv_58 rfl (lv_at hl 0 rfl) ?_
            refine cd_gO (o2 := 10) (e2 := 0) (o := 4) (k := 0) (f := 128) hj cx hw hic4 rfl ⟨by decide, rfl, by decide, rfl⟩ rfl (by decide) ⟨rfl, rfl⟩ (List.mem_cons_of_mem _ cm_658) dX4_readPriv_59 ?_
            obtain ⟨p6, e_p6, h⟩ := md_ob h
            refine hp_callVv (As := []) (rest := []) cx hw (kc_X10_advance l D cA E _ ad _ hj oq sgq sgv hE n σ  p6 e_p6) (cwV 0 cx.2.2.2.2.2.1 (cd_giV cm_670 cm_671 cm_672 cm_301 cm_673) rfl rfl rfl hdc_X10_advance ⟨by (try dsimp only); omega, by (try dsimp only); omega⟩) (cd_atO hj (by decide) (by decide)) rfl rfl hl.1 rfl (Nat.le_of_ble_eq_true rfl) dX4_readPriv_62 ⟨by (try dsimp only); omega, by (try dsimp only); omega⟩ (fun u H locs hp hw => ?_)
            obtain ⟨ca, hj, rfl⟩ := hp
            refine lv_aload_n cx.1 cx.2.1 dX4_readPriv_65 rfl (lv_at hl 0 rfl) ?_
            refine lv_iload cx.1 cx.2.1 dX4_readPriv_66 (lv_at hl 4 rfl) ?_
            refine lv_iconst (v := 1) cx.1 cx.2.1 dX4_readPriv_68 (by decide) ?_
            obtain ⟨q7, e_q7, h⟩ := md_ob h
            obtain ⟨hm8, hn8, h⟩ := cd_cks h
            have hM8 : p.2.2.1 ≤ (Sum.elim (fun (p : Int32 × cd_S × cd_B) => p.2.2) (fun (t : cd_S × cd_B) => t.2) q7).1 ∧ p.2.2.2 ≤ (Sum.elim (fun (p : Int32 × cd_S × cd_B) => p.2.2) (fun (t : cd_S × cd_B) => t.2) q7).2 := ⟨Nat.le_trans hq1 hm8, Nat.le_trans hq2 hn8⟩
            cases q7 with
            | inr t7 =>
              exact nomatch KR _ (Option.some.inj h).symm
            | inl p7 =>
              have hle7 := (kc_X4_readRight l D cA E sz ad _ hj oq sgq sgv hE n p6.2 b l4 (1 : Int32) p7 e_q7).1
              have hM10008 : p.2.2.1 ≤ p7.2.2.1 ∧ p.2.2.2 ≤ p7.2.2.2 := hM8
              have h := cd_inl h
              refine hp_callVv (As := [.int l4, .int 1]) (rest := []) cx hw ((kc_X4_readRight l D cA E _ ad _ hj oq sgq sgv hE n p6.2 b l4 (1 : Int32) p7 e_q7).2) (cwV 2 cx.2.2.2.2.2.1 (cd_giV cm_718 cm_719 cm_720 cm_663 cm_721) rfl rfl rfl hdc_X4_readRight ⟨by (try dsimp only); omega, by (try dsimp only); omega⟩) (cd_atO hj (by decide) (by decide)) rfl rfl hl.1 rfl (Nat.le_of_ble_eq_true rfl) dX4_readPriv_69 ⟨by (try dsimp only); omega, by (try dsimp only); omega⟩ (fun u H locs hp hw => ?_)
              obtain ⟨ca, hj, rfl⟩ := hp
              refine W.widen (k := b0.1 - p7.2.2.1) (n := b0.2 - p7.2.2.2) (by omega) (by omega) ?_
              refine lv_aload_n cx.1 cx.2.1 dX4_readPriv_72 rfl (lv_at hl 0 rfl) ?_
              refine cd_gO (o2 := 10) (e2 := 0) (o := 4) (k := 0) (f := 128) hj cx hw hic4 rfl ⟨by decide, rfl, by decide, rfl⟩ rfl (by decide) ⟨rfl, rfl⟩ (List.mem_cons_of_mem _ cm_658) dX4_readPriv_73 ?_
              refine cd_gI (o := 10) (k := 8) (f := 328) hj cx hw hic10 rfl ⟨by decide, rfl, by decide, rfl⟩ rfl (by decide) (List.mem_cons_of_mem _ cm_665) dX4_readPriv_76 ?_
              refine lv_bipush (v := 44) cx.1 cx.2.1 dX4_readPriv_79 (by decide) ?_
              refine lv_icmp_ne (tgt := 88) cx.1 cx.2.1 dX4_readPriv_81 (by decide) (fun c81 => ?_) (fun c81 => ?_)
              · have h := md_in c81 h
                refine lv_iconst (v := 0) cx.1 cx.2.1 dX4_readPriv_88 (by decide) ?_
                exact J89 _ hj p7.2.1 (p7.2.2) l4 0 _ _ _ (by omega) (by omega) (by omega) (by omega) h hw (lv_sub hl [0, 1, 2, 4] rfl)
              · have h := md_ip c81 h
                refine lv_iconst (v := 1) cx.1 cx.2.1 dX4_readPriv_84 (by decide) ?_
                refine lv_goto (tgt := 89) cx.1 cx.2.1 dX4_readPriv_85 (by decide) ?_
                exact J89 _ hj p7.2.1 (p7.2.2) l4 1 _ _ _ (by omega) (by omega) (by omega) (by omega) h hw (lv_sub hl [0, 1, 2, 4] rfl)
    obtain ⟨q9, e_q9, h⟩ := md_ob h
    obtain ⟨hm10, hn10, h⟩ := cd_cks h
    have hM10 : p.2.2.1 ≤ (Sum.elim (fun (q : ((Int32 × cd_S × cd_B) ⊕ (cd_S × cd_B))) => Sum.elim (fun (p : (Int32 × cd_S × cd_B)) => p.2.2) (fun (t : cd_S × cd_B) => t.2) q) (fun (q : cd_S × cd_B × Int32 × Int32) => q.2.1) q9).1 ∧ p.2.2.2 ≤ (Sum.elim (fun (q : ((Int32 × cd_S × cd_B) ⊕ (cd_S × cd_B))) => Sum.elim (fun (p : (Int32 × cd_S × cd_B)) => p.2.2) (fun (t : cd_S × cd_B) => t.2) q) (fun (q : cd_S × cd_B × Int32 × Int32) => q.2.1) q9).2 := ⟨hm10, hn10⟩
    refine L47 n _ hj σ b l1 l2 l3 0 q9 _ _ _ (by omega) (by omega) (by omega) (by omega) (by omega) hM10.1 hM10.2 e_q9 hw (lv_sub hl [1, 2, 3, 4, 0] rfl) (fun t9 hq9 ca hj H locs ls hb1 hb2 hw hl => ?_) (fun r hr => by subst hr; exact Option.some.inj h)
    subst hq9
    have h := md_inr h
    have hS10 : p.2.2.1 ≤ t9.2.1.1 ∧ p.2.2.2 ≤ t9.2.1.2 := hM10
    refine lv_aload_n cx.1 cx.2.1 dX4_readPriv_96 rfl (lv_at hl 2 rfl) ?_
    refine cd_gI (o := 9) (k := 1) (f := 289) hj cx hw hic9 rfl ⟨by decide, rfl, by decide, rfl⟩ rfl (show _ < 60 by omega) (List.mem_cons_of_mem _ cm_888) dX4_readPriv_97 ?_
    refine lv_iconst (v := 3) cx.1 cx.2.1 dX4_readPriv_100 (by decide) ?_
    refine lv_icmp_ne (tgt := 110) cx.1 cx.2.1 dX4_readPriv_101 (by decide) (fun c101 => ?_) (fun c101 => ?_)
    · have h := md_in c101 h
      exact J110 _ hj t9.1 (t9.2.1) l1 l2 _ _ _ (by omega) (by omega) (by omega) (by omega) (by omega) h hw (lv_sub hl [0, 1, 2] rfl)
    · have h := md_ip c101 h
      refine lv_aload_n cx.1 cx.2.1 dX4_readPriv_104 rfl (lv_at hl 0 rfl) ?_
      refine lv_bipush (v := 93) cx.1 cx.2.1 dX4_readPriv_105 (by decide) ?_
      obtain ⟨q11, e_q11, h⟩ := md_ob h
      obtain ⟨hm12, hn12, h⟩ := cd_cks h
      have hM12 : p.2.2.1 ≤ (Sum.elim (fun (p : Int32 × cd_S × cd_B) => p.2.2) (fun (t : cd_S × cd_B) => t.2) q11).1 ∧ p.2.2.2 ≤ (Sum.elim (fun (p : Int32 × cd_S × cd_B) => p.2.2) (fun (t : cd_S × cd_B) => t.2) q11).2 := ⟨hm12, hn12⟩
      cases q11 with
      | inr t11 =>
        exact nomatch Option.some.inj h
      | inl p11 =>
        have hle11 := (kc_X4_pass l D cA E sz ad _ hj oq sgq sgv hE n t9.1 (t9.2.1) (93 : Int32) p11 e_q11).1
        have hM10012 : p.2.2.1 ≤ p11.2.2.1 ∧ p.2.2.2 ≤ p11.2.2.2 := hM12
        have h := cd_inl h
        refine hp_callVv (As := [.int 93]) (rest := []) cx hw ((kc_X4_pass l D cA E _ ad _ hj oq sgq sgv hE n t9.1 (t9.2.1) (93 : Int32) p11 e_q11).2) (cwV 1 cx.2.2.2.2.2.1 (cd_giV cm_714 cm_715 cm_716 cm_663 cm_717) rfl rfl rfl hdc_X4_pass ⟨by (try dsimp only); omega, by (try dsimp only); omega⟩) (cd_atO hj (by decide) (by decide)) rfl rfl hl.1 rfl (Nat.le_of_ble_eq_true rfl) dX4_readPriv_107 ⟨by (try dsimp only); omega, by (try dsimp only); omega⟩ (fun u H locs hp hw => ?_)
        obtain ⟨ca, hj, rfl⟩ := hp
        refine W.widen (k := b0.1 - p11.2.2.1) (n := b0.2 - p11.2.2.2) (by omega) (by omega) ?_
        exact J110 _ hj p11.2.1 (p11.2.2) l1 l2 _ _ _ (by omega) (by omega) (by omega) (by omega) (by omega) h hw (lv_sub hl [0, 1, 2] rfl)
  have J34 : ∀ (ca : Nat → Nat) (hj : cd_inj ad ca) (σ : cd_S) (b : cd_B) (l1 : Int32) (l2 : Nat) (t0 : Int32) (H : Heap) (locs : List Loc) (ls : Array Slot), l2 < 60 → b.1 ≤ b0.1 → b.2 ≤ b0.2 → p.2.2.1 ≤ b.1 → p.2.2.2 ≤ b.2 → f_X4_readPriv_J34 n rec σ b l1 l2 t0 = some (Sum.inl p) → hp_w D vwCl (hp_Tl cA) E (hp_A (cd_pic cA ad ca0 σ0) sz) ss H locs (cd_pic cA ad ca σ) → lv_has ls 5 [(0, .ref (ad 4 0)), (1, .int l1), (2, .ref (ad 9 l2))] → W pp l ee ({ frames := (d + 1) + 16, cells := b0.1 - p.2.2.1, slots := b0.2 - p.2.2.2, locals := 26 * (d + 1) + 286 }) ss mm [.ref (ad 4 0), .int a1].toArray bb mt cd H locs (b0.1 - b.1) (b0.2 - b.2) (MQ bb (hp_Qv D vwCl (hp_Tl cA) sz (cd_pic cA ad ca0 σ0) (fun u => ∃ ca1, cd_inj ad ca1 ∧ u = cd_pic cA ad ca1 p.2.1)) [.ref (ad 4 0), .int a1].toArray ss (b0.1 - p.2.2.1) (b0.2 - p.2.2.2) (hp_A (cd_pic cA ad ca0 σ0) sz)) (F0 mm 34 ls [.int t0]) := by
    intro ca hj σ b l1 l2 t0 H locs ls hb_l2 hb1 hb2 hf1 hf2 h hw hl
    refine lv_istore_n (lv' := [(3, .int t0), (0, .ref (ad 4 0)), (1, .int l1), (2, .ref (ad 9 l2))]) cx.1 cx.2.1 dX4_readPriv_34 rfl hl (by decide) rfl (fun ls hl => ?_)
    refine lv_iload_n cx.1 cx.2.1 dX4_readPriv_35 rfl (lv_at hl 0 rfl) ?_
    refine lv_if_eq (tgt := 44) cx.1 cx.2.1 dX4_readPriv_36 (by decide) (fun c36 => ?_) (fun c36 => ?_)
    · have h := md_ip c36 h
      exact J44 _ hj σ b l1 l2 t0 _ _ _ (by omega) (by omega) (by omega) (by omega) (by omega) h hw (lv_sub hl [1, 2, 3, 0] rfl)
    · have h := md_in c36 h
      refine lv_aload_n cx.1 cx.2.1 dX4_readPriv_39 rfl (lv_at hl 1 rfl) ?_
      refine lv_aload_n cx.1 cx.2.1 dX4_readPriv_40 rfl (lv_at hl 3 rfl) ?_
      obtain ⟨q13, e_q13, h⟩ := md_ob h
      obtain ⟨hm14, hn14, h⟩ := cd_cks h
      have hM14 : p.2.2.1 ≤ (Sum.elim (fun (p : Int32 × cd_S × cd_B) => p.2.2) (fun (t : cd_S × cd_B) => t.2) q13).1 ∧ p.2.2.2 ≤ (Sum.elim (fun (p : Int32 × cd_S × cd_B) => p.2.2) (fun (t : cd_S × cd_B) => t.2) q13).2 := ⟨hm14, hn14⟩
      cases q13 with
      | inr t13 =>
        exact nomatch Option.some.inj h
      | inl p13 =>
        have hle13 := (kc_X4_openLimit l D cA E sz ad _ hj oq sgq sgv hE n σ b l2 (show _ < 60 by omega) p13 e_q13).1
        have hM10014 : p.2.2.1 ≤ p13.2.2.1 ∧ p.2.2.2 ≤ p13.2.2.2 := hM14
        have h := cd_inl h
        refine hp_callVv (As := [.ref (ad 9 l2)]) (rest := []) cx hw ((kc_X4_openLimit l D cA E _ ad _ hj oq sgq sgv hE n σ b l2 (show _ < 60 by omega) p13 e_q13).2) (cwV 1 cx.2.2.2.2.2.1 (cd_giV cm_894 cm_895 cm_896 cm_663 cm_897) rfl rfl rfl hdc_X4_openLimit ⟨by (try dsimp only); omega, by (try dsimp only); omega⟩) (cd_atO hj (by decide) (by decide)) rfl rfl hl.1 rfl (Nat.le_of_ble_eq_true rfl) dX4_readPriv_41 ⟨by (try dsimp only); omega, by (try dsimp only); omega⟩ (fun u H locs hp hw => ?_)
        obtain ⟨ca, hj, rfl⟩ := hp
        refine W.widen (k := b0.1 - p13.2.2.1) (n := b0.2 - p13.2.2.2) (by omega) (by omega) ?_
        exact J44 _ hj p13.2.1 (p13.2.2) l1 l2 t0 _ _ _ (by omega) (by omega) (by omega) (by omega) (by omega) h hw (lv_sub hl [1, 2, 3, 0] rfl)
  refine lv_aload_n cx.1 cx.2.1 dX4_readPriv_0 rfl (lv_at hl 0 rfl) ?_
  obtain ⟨q15, e_q15, h⟩ := md_ob h
  obtain ⟨hm16, hn16, h⟩ := cd_cks h
  have hM16 : p.2.2.1 ≤ (Sum.elim (fun (p : Int32 × cd_S × cd_B) => p.2.2) (fun (t : cd_S × cd_B) => t.2) q15).1 ∧ p.2.2.2 ≤ (Sum.elim (fun (p : Int32 × cd_S × cd_B) => p.2.2) (fun (t : cd_S × cd_B) => t.2) q15).2 := ⟨hm16, hn16⟩
  cases q15 with
  | inr t15 =>
    exact nomatch Option.some.inj h
  | inl p15 =>
    have hle15 := (kc_X4_part l D cA E sz ad _ hj oq sgq sgv hE n σ0 b0  p15 e_q15).1
    have hM10016 : p.2.2.1 ≤ p15.2.2.1 ∧ p.2.2.2 ≤ p15.2.2.2 := hM16
    have h := cd_inl h
    refine hp_callVv (As := []) (rest := []) cx hw ((kc_X4_part l D cA E _ ad _ hj oq sgq sgv hE n σ0 b0  p15 e_q15).2) (cwV 0 cx.2.2.2.2.2.1 (cd_giV cm_764 cm_765 cm_766 cm_663 cm_767) rfl rfl rfl hdc_X4_part ⟨by (try dsimp only); omega, by (try dsimp only); omega⟩) (cd_atO hj (by decide) (by decide)) rfl rfl hl.1 rfl (Nat.le_of_ble_eq_true rfl) dX4_readPriv_1 ⟨by (try dsimp only); omega, by (try dsimp only); omega⟩ (fun u H locs hp hw => ?_)
    obtain ⟨ca, hj, rfl⟩ := hp
    refine W.widen (k := b0.1 - p15.2.2.1) (n := b0.2 - p15.2.2.2) (by omega) (by omega) ?_
    refine lv_aload_n cx.1 cx.2.1 dX4_readPriv_4 rfl (lv_at hl 0 rfl) ?_
    refine lv_iconst (v := 2) cx.1 cx.2.1 dX4_readPriv_5 (by decide) ?_
    obtain ⟨q17, e_q17, h⟩ := md_ob h
    obtain ⟨hm18, hn18, h⟩ := cd_cks h
    have hM18 : p.2.2.1 ≤ (Sum.elim (fun (p : Nat × cd_S × cd_B) => p.2.2) (fun (t : cd_S × cd_B) => t.2) q17).1 ∧ p.2.2.2 ≤ (Sum.elim (fun (p : Nat × cd_S × cd_B) => p.2.2) (fun (t : cd_S × cd_B) => t.2) q17).2 := ⟨hm18, hn18⟩
    cases q17 with
    | inr t17 =>
      exact nomatch Option.some.inj h
    | inl p17 =>
      have hle17 := (kc_X4_openUnit l D cA E sz ad _ hj oq sgq sgv hE n p15.2.1 (p15.2.2) (2 : Int32) p17 e_q17).1
      have hM10018 : p.2.2.1 ≤ p17.2.2.1 ∧ p.2.2.2 ≤ p17.2.2.2 := hM18
      have h := cd_inl h
      refine hp_callVr (As := [.int 2]) (rest := []) cx hw ((kc_X4_openUnit l D cA E _ ad _ hj oq sgq sgv hE n p15.2.1 (p15.2.2) (2 : Int32) p17 e_q17).2) (cwV 1 cx.2.2.2.2.2.1 (cd_giV cm_807 cm_808 cm_809 cm_663 cm_810) rfl rfl rfl hdc_X4_openUnit ⟨by (try dsimp only); omega, by (try dsimp only); omega⟩) (cd_atO hj (by decide) (by decide)) rfl rfl hl.1 rfl (Nat.le_of_ble_eq_true rfl) dX4_readPriv_6 ⟨by (try dsimp only); omega, by (try dsimp only); omega⟩ (fun r u H locs hp hw => ?_)
      obtain ⟨⟨hb_p17, rfl⟩, ca, hj, rfl⟩ := hp
      refine W.widen (k := b0.1 - p17.2.2.1) (n := b0.2 - p17.2.2.2) (by omega) (by omega) ?_
      refine lv_astore_n (lv' := [(2, .ref (ad 9 p17.1)), (0, .ref (ad 4 0)), (1, .int a1)]) cx.1 cx.2.1 dX4_readPriv_9 rfl hl (by decide) rfl (fun ls hl => ?_)
      refine lv_aload_n cx.1 cx.2.1 dX4_readPriv_10 rfl (lv_at hl 1 rfl) ?_
      refine cd_gO (o2 := 10) (e2 := 0) (o := 4) (k := 0) (f := 128) hj cx hw hic4 rfl ⟨by decide, rfl, by decide, rfl⟩ rfl (by decide) ⟨rfl, rfl⟩ (List.mem_cons_of_mem _ cm_658) dX4_readPriv_11 ?_
      obtain ⟨p19, e_p19, h⟩ := md_ob h
      refine hp_callVv (As := []) (rest := []) cx hw (kc_X10_advance l D cA E _ ad _ hj oq sgq sgv hE n p17.2.1  p19 e_p19) (cwV 0 cx.2.2.2.2.2.1 (cd_giV cm_670 cm_671 cm_672 cm_301 cm_673) rfl rfl rfl hdc_X10_advance ⟨by (try dsimp only); omega, by (try dsimp only); omega⟩) (cd_atO hj (by decide) (by decide)) rfl rfl hl.1 rfl (Nat.le_of_ble_eq_true rfl) dX4_readPriv_14 ⟨by (try dsimp only); omega, by (try dsimp only); omega⟩ (fun u H locs hp hw => ?_)
      obtain ⟨ca, hj, rfl⟩ := hp
      refine lv_aload_n cx.1 cx.2.1 dX4_readPriv_17 rfl (lv_at hl 1 rfl) ?_
      refine cd_gO (o2 := 10) (e2 := 0) (o := 4) (k := 0) (f := 128) hj cx hw hic4 rfl ⟨by decide, rfl, by decide, rfl⟩ rfl (by decide) ⟨rfl, rfl⟩ (List.mem_cons_of_mem _ cm_658) dX4_readPriv_18 ?_
      refine cd_gI (o := 10) (k := 8) (f := 328) hj cx hw hic10 rfl ⟨by decide, rfl, by decide, rfl⟩ rfl (by decide) (List.mem_cons_of_mem _ cm_665) dX4_readPriv_21 ?_
      refine lv_bipush (v := 91) cx.1 cx.2.1 dX4_readPriv_24 (by decide) ?_
      refine lv_icmp_ne (tgt := 33) cx.1 cx.2.1 dX4_readPriv_26 (by decide) (fun c26 => ?_) (fun c26 => ?_)
      · have h := md_in c26 h
        refine lv_iconst (v := 0) cx.1 cx.2.1 dX4_readPriv_33 (by decide) ?_
        exact J34 _ hj p19.2 (p17.2.2) a1 (p17.1) 0 _ _ _ (by omega) (by omega) (by omega) (by omega) (by omega) h hw (lv_sub hl [1, 2, 0] rfl)
      · have h := md_ip c26 h
        refine lv_iconst (v := 1) cx.1 cx.2.1 dX4_readPriv_29 (by decide) ?_
        refine lv_goto (tgt := 34) cx.1 cx.2.1 dX4_readPriv_30 (by decide) ?_
        exact J34 _ hj p19.2 (p17.2.2) a1 (p17.1) 1 _ _ _ (by omega) (by omega) (by omega) (by omega) (by omega) h hw (lv_sub hl [1, 2, 0] rfl)
set_option maxHeartbeats 4000000 in
set_option maxRecDepth 100000 in
theorem kc_X4_readUnder (l : Launch) (D : va_G) (cA : Nat → ClassId) (E : hp_N) (sz : Nat) (ad : Nat → Nat → Nat) (ca0 : Nat → Nat) (hj : cd_inj ad ca0) (oq sgq sgv : Nat) (hE : cd_E E oq sgq sgv) (n d : Nat) (rec : cd_R) (in8 : ∀ (sz : Nat) (ca : Nat → Nat) (_ : cd_inj ad ca) (σ : cd_S) (b : cd_B) (a1 : Int32) (p : Int32 × cd_S × cd_B), rec 8 0 a1 0 σ b = some (Sum.inl p) → (p.2.2.1 ≤ b.1 ∧ p.2.2.2 ≤ b.2) ∧ Met l yX4_readInnerPrefix (Cond.code yX4_readInnerPrefix cX4_readInnerPrefix 2 none :: v_CLS) ({ frames := d + 16, cells := b.1 - p.2.2.1, slots := b.2 - p.2.2.2, locals := 26 * d + 286 }) (hp_Pc D vwCl (hp_Tl cA) E sz (cd_pic cA ad ca σ) [.ref (ad 4 0), .int a1]) (hp_Qv D vwCl (hp_Tl cA) sz (cd_pic cA ad ca σ) (fun u => ∃ ca1, cd_inj ad ca1 ∧ u = cd_pic cA ad ca1 p.2.1)) (b.1 - p.2.2.1) (b.2 - p.2.2.2) (hp_A (cd_pic cA ad ca σ) sz)) (σ0 : cd_S) (b0 : cd_B) (a1 : Int32) (p : (Int32 × cd_S × cd_B)) (h : f_X4_readUnder n rec σ0 b0 a1 = some (Sum.inl p)) : (p.2.2.1 ≤ b0.1 ∧ p.2.2.2 ≤ b0.2) ∧ Met l yX4_readUnder (Cond.code yX4_readUnder cX4_readUnder 3 none :: v_CLS) ({ frames := (d + 1) + 16, cells := b0.1 - p.2.2.1, slots := b0.2 - p.2.2.2, locals := 26 * (d + 1) + 286 }) (hp_Pc D vwCl (hp_Tl cA) E sz (cd_pic cA ad ca0 σ0) [.ref (ad 4 0), .int a1]) (hp_Qv D vwCl (hp_Tl cA) sz (cd_pic cA ad ca0 σ0) (fun u => ∃ ca1, cd_inj ad ca1 ∧ u = cd_pic cA ad ca1 p.2.1)) (b0.1 - p.2.2.1) (b0.2 - p.2.2.2) (hp_A (cd_pic cA ad ca0 σ0) sz) := by
  obtain ⟨hm0, hn0, h⟩ := cd_cks h
  have hM0 : p.2.2.1 ≤ b0.1 ∧ p.2.2.2 ≤ b0.2 := ⟨hm0, hn0⟩
  refine ⟨hM0, ?_⟩
  refine hp_ofW (cc := cX4_readUnder) (maxL := 3) (ret := none) (by decide) rfl (Nat.le_of_ble_eq_true rfl) ?_
  intro pp ee ss mm bb mt cd ls cx hsz hw hl
  have hl : lv_has ls 3 [(0, .ref (ad 4 0)), (1, .int a1)] := hl
  refine W.widen (k := b0.1 - b0.1) (n := b0.2 - b0.2) (Nat.zero_le _) (Nat.zero_le _) ?_
  refine lv_aload_n cx.1 cx.2.1 dX4_readUnder_0 rfl (lv_at hl 0 rfl) ?_
  obtain ⟨q1, e_q1, h⟩ := md_ob h
  obtain ⟨hm2, hn2, h⟩ := cd_cks h
  have hM2 : p.2.2.1 ≤ (Sum.elim (fun (p : Int32 × cd_S × cd_B) => p.2.2) (fun (t : cd_S × cd_B) => t.2) q1).1 ∧ p.2.2.2 ≤ (Sum.elim (fun (p : Int32 × cd_S × cd_B) => p.2.2) (fun (t : cd_S × cd_B) => t.2) q1).2 := ⟨hm2, hn2⟩
  cases q1 with
  | inr t1 =>
    exact nomatch Option.some.inj h
  | inl p1 =>
    have hle1 := (kc_X4_part l D cA E sz ad _ hj oq sgq sgv hE n σ0 b0  p1 e_q1).1
    have hM10002 : p.2.2.1 ≤ p1.2.2.1 ∧ p.2.2.2 ≤ p1.2.2.2 := hM2
    have h := cd_inl h
    refine hp_callVv (As := []) (rest := []) cx hw ((kc_X4_part l D cA E _ ad _ hj oq sgq sgv hE n σ0 b0  p1 e_q1).2) (cwV 0 cx.2.2.2.2.2.1 (cd_giV cm_764 cm_765 cm_766 cm_663 cm_767) rfl rfl rfl hdc_X4_part ⟨by (try dsimp only); omega, by (try dsimp only); omega⟩) (cd_atO hj (by decide) (by decide)) rfl rfl hl.1 rfl (Nat.le_of_ble_eq_true rfl) dX4_readUnder_1 ⟨by (try dsimp only); omega, by (try dsimp only); omega⟩ (fun u H locs hp hw => ?_)
    obtain ⟨ca, hj, rfl⟩ := hp
    refine W.widen (k := b0.1 - p1.2.2.1) (n := b0.2 - p1.2.2.2) (by omega) (by omega) ?_
    refine lv_aload_n cx.1 cx.2.1 dX4_readUnder_4 rfl (lv_at hl 0 rfl) ?_
    refine lv_iconst (v := 4) cx.1 cx.2.1 dX4_readUnder_5 (by decide) ?_
    obtain ⟨q3, e_q3, h⟩ := md_ob h
    obtain ⟨hm4, hn4, h⟩ := cd_cks h
    have hM4 : p.2.2.1 ≤ (Sum.elim (fun (p : Nat × cd_S × cd_B) => p.2.2) (fun (t : cd_S × cd_B) => t.2) q3).1 ∧ p.2.2.2 ≤ (Sum.elim (fun (p : Nat × cd_S × cd_B) => p.2.2) (fun (t : cd_S × cd_B) => t.2) q3).2 := ⟨hm4, hn4⟩
    cases q3 with
    | inr t3 =>
      exact nomatch Option.some.inj h
    | inl p3 =>
      have hle3 := (kc_X4_openUnit l D cA E sz ad _ hj oq sgq sgv hE n p1.2.1 (p1.2.2) (4 : Int32) p3 e_q3).1
      have hM10004 : p.2.2.1 ≤ p3.2.2.1 ∧ p.2.2.2 ≤ p3.2.2.2 := hM4
      have h := cd_inl h
      refine hp_callVr (As := [.int 4]) (rest := []) cx hw ((kc_X4_openUnit l D cA E _ ad _ hj oq sgq sgv hE n p1.2.1 (p1.2.2) (4 : Int32) p3 e_q3).2) (cwV 1 cx.2.2.2.2.2.1 (cd_giV cm_807 cm_808 cm_809 cm_663 cm_810) rfl rfl rfl hdc_X4_openUnit ⟨by (try dsimp only); omega, by (try dsimp only); omega⟩) (cd_atO hj (by decide) (by decide)) rfl rfl hl.1 rfl (Nat.le_of_ble_eq_true rfl) dX4_readUnder_6 ⟨by (try dsimp only); omega, by (try dsimp only); omega⟩ (fun r u H locs hp hw => ?_)
      obtain ⟨⟨hb_p3, rfl⟩, ca, hj, rfl⟩ := hp
      refine W.widen (k := b0.1 - p3.2.2.1) (n := b0.2 - p3.2.2.2) (by omega) (by omega) ?_
      refine lv_astore_n (lv' := [(2, .ref (ad 9 p3.1)), (0, .ref (ad 4 0)), (1, .int a1)]) cx.1 cx.2.1 dX4_readUnder_9 rfl hl (by decide) rfl (fun ls hl => ?_)
      refine lv_aload_n cx.1 cx.2.1 dX4_readUnder_10 rfl (lv_at hl 1 rfl) ?_
      refine cd_gO (o2 := 10) (e2 := 0) (o := 4) (k := 0) (f := 128) hj cx hw hic4 rfl ⟨by decide, rfl, by decide, rfl⟩ rfl (by decide) ⟨rfl, rfl⟩ (List.mem_cons_of_mem _ cm_658) dX4_readUnder_11 ?_
      obtain ⟨p5, e_p5, h⟩ := md_ob h
      refine hp_callVv (As := []) (rest := []) cx hw (kc_X10_advance l D cA E _ ad _ hj oq sgq sgv hE n p3.2.1  p5 e_p5) (cwV 0 cx.2.2.2.2.2.1 (cd_giV cm_670 cm_671 cm_672 cm_301 cm_673) rfl rfl rfl hdc_X10_advance ⟨by (try dsimp only); omega, by (try dsimp only); omega⟩) (cd_atO hj (by decide) (by decide)) rfl rfl hl.1 rfl (Nat.le_of_ble_eq_true rfl) dX4_readUnder_14 ⟨by (try dsimp only); omega, by (try dsimp only); omega⟩ (fun u H locs hp hw => ?_)
      obtain ⟨ca, hj, rfl⟩ := hp
      refine lv_aload_n cx.1 cx.2.1 dX4_readUnder_17 rfl (lv_at hl 1 rfl) ?_
      refine lv_iload_n cx.1 cx.2.1 dX4_readUnder_18 rfl (lv_at hl 2 rfl) ?_
      refine lv_iconst (v := 1) cx.1 cx.2.1 dX4_readUnder_19 (by decide) ?_
      refine lv_iadd cx.1 cx.2.1 dX4_readUnder_20 ?_
      obtain ⟨q6, e_q6, h⟩ := md_ob h
      obtain ⟨hm7, hn7, h⟩ := cd_cks h
      have hM7 : p.2.2.1 ≤ (Sum.elim (fun (p : Int32 × cd_S × cd_B) => p.2.2) (fun (t : cd_S × cd_B) => t.2) q6).1 ∧ p.2.2.2 ≤ (Sum.elim (fun (p : Int32 × cd_S × cd_B) => p.2.2) (fun (t : cd_S × cd_B) => t.2) q6).2 := ⟨hm7, hn7⟩
      cases q6 with
      | inr t6 =>
        exact nomatch Option.some.inj h
      | inl p6 =>
        have hle6 := (in8 sz _ hj p5.2 (p3.2.2) ((a1 + 1)) p6 e_q6).1
        have hM10007 : p.2.2.1 ≤ p6.2.2.1 ∧ p.2.2.2 ≤ p6.2.2.2 := hM7
        have h := cd_inl h
        refine hp_callVv (As := [.int (a1 + 1)]) (rest := []) cx hw ((in8 _ _ hj p5.2 (p3.2.2) ((a1 + 1)) p6 e_q6).2) (cwV 1 cx.2.2.2.2.2.1 (cd_giV cm_871 cm_872 cm_873 cm_663 cm_874) rfl rfl rfl hdc_X4_readInnerPrefix ⟨by (try dsimp only); omega, by (try dsimp only); omega⟩) (cd_atO hj (by decide) (by decide)) rfl rfl hl.1 rfl (Nat.le_of_ble_eq_true rfl) dX4_readUnder_21 ⟨by (try dsimp only); omega, by (try dsimp only); omega⟩ (fun u H locs hp hw => ?_)
        obtain ⟨ca, hj, rfl⟩ := hp
        refine W.widen (k := b0.1 - p6.2.2.1) (n := b0.2 - p6.2.2.2) (by omega) (by omega) ?_
        refine lv_aload_n cx.1 cx.2.1 dX4_readUnder_24 rfl (lv_at hl 1 rfl) ?_
        refine lv_bipush (v := 58) cx.1 cx.2.1 dX4_readUnder_25 (by decide) ?_
        obtain ⟨q8, e_q8, h⟩ := md_ob h
        obtain ⟨hm9, hn9, h⟩ := cd_cks h
        have hM9 : p.2.2.1 ≤ (Sum.elim (fun (p : Int32 × cd_S × cd_B) => p.2.2) (fun (t : cd_S × cd_B) => t.2) q8).1 ∧ p.2.2.2 ≤ (Sum.elim (fun (p : Int32 × cd_S × cd_B) => p.2.2) (fun (t : cd_S × cd_B) => t.2) q8).2 := ⟨hm9, hn9⟩
        cases q8 with
        | inr t8 =>
          exact nomatch Option.some.inj h
        | inl p8 =>
          have hle8 := (kc_X4_pass l D cA E sz ad _ hj oq sgq sgv hE n p6.2.1 (p6.2.2) (58 : Int32) p8 e_q8).1
          have hM10009 : p.2.2.1 ≤ p8.2.2.1 ∧ p.2.2.2 ≤ p8.2.2.2 := hM9
          have h := cd_inl h
          refine hp_callVv (As := [.int 58]) (rest := []) cx hw ((kc_X4_pass l D cA E _ ad _ hj oq sgq sgv hE n p6.2.1 (p6.2.2) (58 : Int32) p8 e_q8).2) (cwV 1 cx.2.2.2.2.2.1 (cd_giV cm_714 cm_715 cm_716 cm_663 cm_717) rfl rfl rfl hdc_X4_pass ⟨by (try dsimp only); omega, by (try dsimp only); omega⟩) (cd_atO hj (by decide) (by decide)) rfl rfl hl.1 rfl (Nat.le_of_ble_eq_true rfl) dX4_readUnder_27 ⟨by (try dsimp only); omega, by (try dsimp only); omega⟩ (fun u H locs hp hw => ?_)
          obtain ⟨ca, hj, rfl⟩ := hp
          refine W.widen (k := b0.1 - p8.2.2.1) (n := b0.2 - p8.2.2.2) (by omega) (by omega) ?_
          refine lv_aload_n cx.1 cx.2.1 dX4_readUnder_30 rfl (lv_at hl 1 rfl) ?_
          refine lv_aload_n cx.1 cx.2.1 dX4_readUnder_31 rfl (lv_at hl 0 rfl) ?_
          obtain ⟨σ10, e_σ10, h⟩ := md_ob h
          refine cd_pP (u := p3.1) (o2 := 9) (o := 4) (k := 8) (f := 136) hj cx hw hic4 rfl ⟨by decide, rfl, by decide, rfl⟩ tyX4_ok nmX4 rfl (by decide) rfl (List.mem_cons_of_mem _ cm_749) rfl rfl e_σ10 dX4_readUnder_32 (fun H locs hw => ?_)
          refine lv_aload_n cx.1 cx.2.1 dX4_readUnder_35 rfl (lv_at hl 1 rfl) ?_
          refine lv_iload_n cx.1 cx.2.1 dX4_readUnder_36 rfl (lv_at hl 2 rfl) ?_
          refine lv_iconst (v := 1) cx.1 cx.2.1 dX4_readUnder_37 (by decide) ?_
          refine lv_iadd cx.1 cx.2.1 dX4_readUnder_38 ?_
          obtain ⟨q11, e_q11, h⟩ := md_ob h
          obtain ⟨hm12, hn12, h⟩ := cd_cks h
          have hM12 : p.2.2.1 ≤ (Sum.elim (fun (p : Int32 × cd_S × cd_B) => p.2.2) (fun (t : cd_S × cd_B) => t.2) q11).1 ∧ p.2.2.2 ≤ (Sum.elim (fun (p : Int32 × cd_S × cd_B) => p.2.2) (fun (t : cd_S × cd_B) => t.2) q11).2 := ⟨hm12, hn12⟩
          cases q11 with
          | inr t11 =>
            exact nomatch Option.some.inj h
          | inl p11 =>
            have hle11 := (in8 sz _ hj σ10 (p8.2.2) ((a1 + 1)) p11 e_q11).1
            have hM10012 : p.2.2.1 ≤ p11.2.2.1 ∧ p.2.2.2 ≤ p11.2.2.2 := hM12
            have h := cd_inl h
            refine hp_callVv (As := [.int (a1 + 1)]) (rest := []) cx hw ((in8 _ _ hj σ10 (p8.2.2) ((a1 + 1)) p11 e_q11).2) (cwV 1 cx.2.2.2.2.2.1 (cd_giV cm_871 cm_872 cm_873 cm_663 cm_874) rfl rfl rfl hdc_X4_readInnerPrefix ⟨by (try dsimp only); omega, by (try dsimp only); omega⟩) (cd_atO hj (by decide) (by decide)) rfl rfl hl.1 rfl (Nat.le_of_ble_eq_true rfl) dX4_readUnder_39 ⟨by (try dsimp only); omega, by (try dsimp only); omega⟩ (fun u H locs hp hw => ?_)
            obtain ⟨ca, hj, rfl⟩ := hp
            refine W.widen (k := b0.1 - p11.2.2.1) (n := b0.2 - p11.2.2.2) (by omega) (by omega) ?_
            refine lv_aload_n cx.1 cx.2.1 dX4_readUnder_42 rfl (lv_at hl 1 rfl) ?_
            refine lv_aload_n cx.1 cx.2.1 dX4_readUnder_43 rfl (lv_at hl 0 rfl) ?_
            refine lv_bipush (v := 10) cx.1 cx.2.1 dX4_readUnder_44 (by decide) ?_
            obtain ⟨p13, e_p13, h⟩ := md_ob h
            obtain ⟨hm14, hn14, h⟩ := cd_cks h
            have hM14 : p.2.2.1 ≤ p13.2.2.1 ∧ p.2.2.2 ≤ p13.2.2.2 := ⟨hm14, hn14⟩
            have hle13 := (kc_X4_closeInner l D cA E sz ad _ hj oq sgq sgv hE n p11.2.1 (p11.2.2) (p3.1) (10 : Int32) (show _ < 60 by omega) p13 e_p13).1
            refine hp_callVv (As := [.ref (ad 9 p3.1), .int 10]) (rest := []) cx hw ((kc_X4_closeInner l D cA E _ ad _ hj oq sgq sgv hE n p11.2.1 (p11.2.2) (p3.1) (10 : Int32) (show _ < 60 by omega) p13 e_p13).2) (cwV 2 cx.2.2.2.2.2.1 (cd_giV cm_819 cm_820 cm_821 cm_663 cm_822) rfl rfl rfl hdc_X4_closeInner ⟨by (try dsimp only); omega, by (try dsimp only); omega⟩) (cd_atO hj (by decide) (by decide)) rfl rfl hl.1 rfl (Nat.le_of_ble_eq_true rfl) dX4_readUnder_46 ⟨by (try dsimp only); omega, by (try dsimp only); omega⟩ (fun u H locs hp hw => ?_)
            obtain ⟨ca, hj, rfl⟩ := hp
            refine W.widen (k := b0.1 - p13.2.2.1) (n := b0.2 - p13.2.2.2) (by omega) (by omega) ?_
            exact hp_vret cx hw ((cd_retb hj (congrArg some (Sum.inl.inj (Option.some.inj h)))).2) dX4_readUnder_49 (cd_le1 (congrArg some (Sum.inl.inj (Option.some.inj h)))) (cd_le2 (congrArg some (Sum.inl.inj (Option.some.inj h))))
set_option maxHeartbeats 4000000 in
set_option maxRecDepth 100000 in
theorem kc_X4_readWord (l : Launch) (D : va_G) (cA : Nat → ClassId) (E : hp_N) (sz : Nat) (ad : Nat → Nat → Nat) (ca0 : Nat → Nat) (hj : cd_inj ad ca0) (oq sgq sgv : Nat) (hE : cd_E E oq sgq sgv) (n d : Nat) (rec : cd_R) (in8 : ∀ (sz : Nat) (ca : Nat → Nat) (_ : cd_inj ad ca) (σ : cd_S) (b : cd_B) (a1 : Int32) (p : Int32 × cd_S × cd_B), rec 8 0 a1 0 σ b = some (Sum.inl p) → (p.2.2.1 ≤ b.1 ∧ p.2.2.2 ≤ b.2) ∧ Met l yX4_readInnerPrefix (Cond.code yX4_readInnerPrefix cX4_readInnerPrefix 2 none :: v_CLS) ({ frames := d + 16, cells := b.1 - p.2.2.1, slots := b.2 - p.2.2.2, locals := 26 * d + 286 }) (hp_Pc D vwCl (hp_Tl cA) E sz (cd_pic cA ad ca σ) [.ref (ad 4 0), .int a1]) (hp_Qv D vwCl (hp_Tl cA) sz (cd_pic cA ad ca σ) (fun u => ∃ ca1, cd_inj ad ca1 ∧ u = cd_pic cA ad ca1 p.2.1)) (b.1 - p.2.2.1) (b.2 - p.2.2.2) (hp_A (cd_pic cA ad ca σ) sz)) (σ0 : cd_S) (b0 : cd_B) (a1 : Int32) (a2 : Int32) (p : (Int32 × cd_S × cd_B)) (h : f_X4_readWord n rec σ0 b0 a1 a2 = some (Sum.inl p)) : (p.2.2.1 ≤ b0.1 ∧ p.2.2.2 ≤ b0.2) ∧ Met l yX4_readWord (Cond.code yX4_readWord cX4_readWord 3 none :: v_CLS) ({ frames := (d + 1) + 16, cells := b0.1 - p.2.2.1, slots := b0.2 - p.2.2.2, locals := 26 * (d + 1) + 286 }) (hp_Pc D vwCl (hp_Tl cA) E sz (cd_pic cA ad ca0 σ0) [.ref (ad 4 0), .int a1, .int a2]) (hp_Qv D vwCl (hp_Tl cA) sz (cd_pic cA ad ca0 σ0) (fun u => ∃ ca1, cd_inj ad ca1 ∧ u = cd_pic cA ad ca1 p.2.1)) (b0.1 - p.2.2.1) (b0.2 - p.2.2.2) (hp_A (cd_pic cA ad ca0 σ0) sz) := by
  obtain ⟨hm0, hn0, h⟩ := cd_cks h
  have hM0 : p.2.2.1 ≤ b0.1 ∧ p.2.2.2 ≤ b0.2 := ⟨hm0, hn0⟩
  refine ⟨hM0, ?_⟩
  refine hp_ofW (cc := cX4_readWord) (maxL := 3) (ret := none) (by decide) rfl (Nat.le_of_ble_eq_true rfl) ?_
  intro pp ee ss mm bb mt cd ls cx hsz hw hl
  have hl : lv_has ls 3 [(0, .ref (ad 4 0)), (1, .int a1), (2, .int a2)] := hl
  refine W.widen (k := b0.1 - b0.1) (n := b0.2 - b0.2) (Nat.zero_le _) (Nat.zero_le _) ?_
  refine lv_aload_n cx.1 cx.2.1 dX4_readWord_0 rfl (lv_at hl 0 rfl) ?_
  obtain ⟨q1, e_q1, h⟩ := md_ob h
  obtain ⟨hm2, hn2, h⟩ := cd_cks h
  have hM2 : p.2.2.1 ≤ (Sum.elim (fun (p : Int32 × cd_S × cd_B) => p.2.2) (fun (t : cd_S × cd_B) => t.2) q1).1 ∧ p.2.2.2 ≤ (Sum.elim (fun (p : Int32 × cd_S × cd_B) => p.2.2) (fun (t : cd_S × cd_B) => t.2) q1).2 := ⟨hm2, hn2⟩
  cases q1 with
  | inr t1 =>
    exact nomatch Option.some.inj h
  | inl p1 =>
    have hle1 := (kc_X4_part l D cA E sz ad _ hj oq sgq sgv hE n σ0 b0  p1 e_q1).1
    have hM10002 : p.2.2.1 ≤ p1.2.2.1 ∧ p.2.2.2 ≤ p1.2.2.2 := hM2
    have h := cd_inl h
    refine hp_callVv (As := []) (rest := []) cx hw ((kc_X4_part l D cA E _ ad _ hj oq sgq sgv hE n σ0 b0  p1 e_q1).2) (cwV 0 cx.2.2.2.2.2.1 (cd_giV cm_764 cm_765 cm_766 cm_663 cm_767) rfl rfl rfl hdc_X4_part ⟨by (try dsimp only); omega, by (try dsimp only); omega⟩) (cd_atO hj (by decide) (by decide)) rfl rfl hl.1 rfl (Nat.le_of_ble_eq_true rfl) dX4_readWord_1 ⟨by (try dsimp only); omega, by (try dsimp only); omega⟩ (fun u H locs hp hw => ?_)
    obtain ⟨ca, hj, rfl⟩ := hp
    refine W.widen (k := b0.1 - p1.2.2.1) (n := b0.2 - p1.2.2.2) (by omega) (by omega) ?_
    refine lv_aload_n cx.1 cx.2.1 dX4_readWord_4 rfl (lv_at hl 0 rfl) ?_
    refine cd_gO (o2 := 10) (e2 := 0) (o := 4) (k := 0) (f := 128) hj cx hw hic4 rfl ⟨by decide, rfl, by decide, rfl⟩ rfl (by decide) ⟨rfl, rfl⟩ (List.mem_cons_of_mem _ cm_658) dX4_readWord_5 ?_
    obtain ⟨p3, e_p3, h⟩ := md_ob h
    refine hp_callVv (As := []) (rest := []) cx hw (kc_X10_advance l D cA E _ ad _ hj oq sgq sgv hE n p1.2.1  p3 e_p3) (cwV 0 cx.2.2.2.2.2.1 (cd_giV cm_670 cm_671 cm_672 cm_301 cm_673) rfl rfl rfl hdc_X10_advance ⟨by (try dsimp only); omega, by (try dsimp only); omega⟩) (cd_atO hj (by decide) (by decide)) rfl rfl hl.1 rfl (Nat.le_of_ble_eq_true rfl) dX4_readWord_8 ⟨by (try dsimp only); omega, by (try dsimp only); omega⟩ (fun u H locs hp hw => ?_)
    obtain ⟨ca, hj, rfl⟩ := hp
    refine lv_aload_n cx.1 cx.2.1 dX4_readWord_11 rfl (lv_at hl 0 rfl) ?_
    refine lv_iload_n cx.1 cx.2.1 dX4_readWord_12 rfl (lv_at hl 2 rfl) ?_
    refine lv_iconst (v := 1) cx.1 cx.2.1 dX4_readWord_13 (by decide) ?_
    refine lv_iadd cx.1 cx.2.1 dX4_readWord_14 ?_
    obtain ⟨q4, e_q4, h⟩ := md_ob h
    obtain ⟨hm5, hn5, h⟩ := cd_cks h
    have hM5 : p.2.2.1 ≤ (Sum.elim (fun (p : Int32 × cd_S × cd_B) => p.2.2) (fun (t : cd_S × cd_B) => t.2) q4).1 ∧ p.2.2.2 ≤ (Sum.elim (fun (p : Int32 × cd_S × cd_B) => p.2.2) (fun (t : cd_S × cd_B) => t.2) q4).2 := ⟨hm5, hn5⟩
    cases q4 with
    | inr t4 =>
      exact nomatch Option.some.inj h
    | inl p4 =>
      have hle4 := (in8 sz _ hj p3.2 (p1.2.2) ((a2 + 1)) p4 e_q4).1
      have hM10005 : p.2.2.1 ≤ p4.2.2.1 ∧ p.2.2.2 ≤ p4.2.2.2 := hM5
      have h := cd_inl h
      refine hp_callVv (As := [.int (a2 + 1)]) (rest := []) cx hw ((in8 _ _ hj p3.2 (p1.2.2) ((a2 + 1)) p4 e_q4).2) (cwV 1 cx.2.2.2.2.2.1 (cd_giV cm_871 cm_872 cm_873 cm_663 cm_874) rfl rfl rfl hdc_X4_readInnerPrefix ⟨by (try dsimp only); omega, by (try dsimp only); omega⟩) (cd_atO hj (by decide) (by decide)) rfl rfl hl.1 rfl (Nat.le_of_ble_eq_true rfl) dX4_readWord_15 ⟨by (try dsimp only); omega, by (try dsimp only); omega⟩ (fun u H locs hp hw => ?_)
      obtain ⟨ca, hj, rfl⟩ := hp
      refine W.widen (k := b0.1 - p4.2.2.1) (n := b0.2 - p4.2.2.2) (by omega) (by omega) ?_
      refine lv_aload_n cx.1 cx.2.1 dX4_readWord_18 rfl (lv_at hl 0 rfl) ?_
      obtain ⟨u6, e_u6, h⟩ := md_ob h
      have hb_u6 : u6 < 60 := (cd_dps e_u6).2
      refine cd_gP (o2 := 9) (u := u6) (o := 4) (k := 8) (f := 136) hj cx hw hic4 rfl ⟨by decide, rfl, by decide, rfl⟩ rfl (by decide) rfl e_u6 (List.mem_cons_of_mem _ cm_749) dX4_readWord_19 ?_
      refine lv_iload_n cx.1 cx.2.1 dX4_readWord_22 rfl (lv_at hl 1 rfl) ?_
      refine lv_iconst (v := 0) cx.1 cx.2.1 dX4_readWord_23 (by decide) ?_
      refine lv_iconst (v := 0) cx.1 cx.2.1 dX4_readWord_24 (by decide) ?_
      obtain ⟨p7, e_p7, h⟩ := md_ob h
      obtain ⟨hm8, hn8, h⟩ := cd_cks h
      have hM8 : p.2.2.1 ≤ p7.2.2.1 ∧ p.2.2.2 ≤ p7.2.2.2 := ⟨hm8, hn8⟩
      have hle7 := (kc_X9_emit l D cA E sz ad _ hj oq sgq sgv hE n p4.2.1 (p4.2.2) u6 a1 (0 : Int32) (0 : Int32) (show _ < 60 by omega) p7 e_p7).1
      refine hp_callVv (As := [.int a1, .int 0, .int 0]) (rest := []) cx hw ((kc_X9_emit l D cA E _ ad _ hj oq sgq sgv hE n p4.2.1 (p4.2.2) u6 a1 (0 : Int32) (0 : Int32) (show _ < 60 by omega) p7 e_p7).2) (cwV 3 cx.2.2.2.2.2.1 (cd_giV cm_781 cm_782 cm_783 cm_114 cm_784) rfl rfl rfl hdc_X9_emit ⟨by (try dsimp only); omega, by (try dsimp only); omega⟩) (cd_atO hj (by decide) (show _ < 60 by omega)) rfl rfl hl.1 rfl (Nat.le_of_ble_eq_true rfl) dX4_readWord_25 ⟨by (try dsimp only); omega, by (try dsimp only); omega⟩ (fun u H locs hp hw => ?_)
      obtain ⟨ca, hj, rfl⟩ := hp
      refine W.widen (k := b0.1 - p7.2.2.1) (n := b0.2 - p7.2.2.2) (by omega) (by omega) ?_
      exact hp_vret cx hw ((cd_retb hj (congrArg some (Sum.inl.inj (Option.some.inj h)))).2) dX4_readWord_28 (cd_le1 (congrArg some (Sum.inl.inj (Option.some.inj h)))) (cd_le2 (congrArg some (Sum.inl.inj (Option.some.inj h))))
set_option maxHeartbeats 4000000 in
set_option maxRecDepth 100000 in
theorem kc_X4_readPrefix (l : Launch) (D : va_G) (cA : Nat → ClassId) (E : hp_N) (sz : Nat) (ad : Nat → Nat → Nat) (ca0 : Nat → Nat) (hj : cd_inj ad ca0) (oq sgq sgv : Nat) (hE : cd_E E oq sgq sgv) (n d : Nat) (rec : cd_R) (in13 : ∀ (sz : Nat) (ca : Nat → Nat) (_ : cd_inj ad ca) (σ : cd_S) (b : cd_B) (a1 : Int32) (p : Int32 × cd_S × cd_B), rec 13 0 a1 0 σ b = some (Sum.inl p) → (p.2.2.1 ≤ b.1 ∧ p.2.2.2 ≤ b.2) ∧ Met l yX4_readPostfix (Cond.code yX4_readPostfix cX4_readPostfix 5 none :: v_CLS) ({ frames := d + 16, cells := b.1 - p.2.2.1, slots := b.2 - p.2.2.2, locals := 26 * d + 286 }) (hp_Pc D vwCl (hp_Tl cA) E sz (cd_pic cA ad ca σ) [.ref (ad 4 0), .int a1]) (hp_Qv D vwCl (hp_Tl cA) sz (cd_pic cA ad ca σ) (fun u => ∃ ca1, cd_inj ad ca1 ∧ u = cd_pic cA ad ca1 p.2.1)) (b.1 - p.2.2.1) (b.2 - p.2.2.2) (hp_A (cd_pic cA ad ca σ) sz)) (in11 : ∀ (sz : Nat) (ca : Nat → Nat) (_ : cd_inj ad ca) (σ : cd_S) (b : cd_B) (a1 : Int32) (p : Int32 × cd_S × cd_B), rec 11 0 a1 0 σ b = some (Sum.inl p) → (p.2.2.1 ≤ b.1 ∧ p.2.2.2 ≤ b.2) ∧ Met l yX4_readPriv (Cond.code yX4_readPriv cX4_readPriv 5 none :: v_CLS) ({ frames := d + 16, cells := b.1 - p.2.2.1, slots := b.2 - p.2.2.2, locals := 26 * d + 286 }) (hp_Pc D vwCl (hp_Tl cA) E sz (cd_pic cA ad ca σ) [.ref (ad 4 0), .int a1]) (hp_Qv D vwCl (hp_Tl cA) sz (cd_pic cA ad ca σ) (fun u => ∃ ca1, cd_inj ad ca1 ∧ u = cd_pic cA ad ca1 p.2.1)) (b.1 - p.2.2.1) (b.2 - p.2.2.2) (hp_A (cd_pic cA ad ca σ) sz)) (in12 : ∀ (sz : Nat) (ca : Nat → Nat) (_ : cd_inj ad ca) (σ : cd_S) (b : cd_B) (a1 : Int32) (p : Int32 × cd_S × cd_B), rec 12 0 a1 0 σ b = some (Sum.inl p) → (p.2.2.1 ≤ b.1 ∧ p.2.2.2 ≤ b.2) ∧ Met l yX4_readUnder (Cond.code yX4_readUnder cX4_readUnder 3 none :: v_CLS) ({ frames := d + 16, cells := b.1 - p.2.2.1, slots := b.2 - p.2.2.2, locals := 26 * d + 286 }) (hp_Pc D vwCl (hp_Tl cA) E sz (cd_pic cA ad ca σ) [.ref (ad 4 0), .int a1]) (hp_Qv D vwCl (hp_Tl cA) sz (cd_pic cA ad ca σ) (fun u => ∃ ca1, cd_inj ad ca1 ∧ u = cd_pic cA ad ca1 p.2.1)) (b.1 - p.2.2.1) (b.2 - p.2.2.2) (hp_A (cd_pic cA ad ca σ) sz)) (in10 : ∀ (sz : Nat) (ca : Nat → Nat) (_ : cd_inj ad ca) (σ : cd_S) (b : cd_B) (a1 : Int32) (a2 : Int32) (p : Int32 × cd_S × cd_B), rec 10 0 a1 a2 σ b = some (Sum.inl p) → (p.2.2.1 ≤ b.1 ∧ p.2.2.2 ≤ b.2) ∧ Met l yX4_readWord (Cond.code yX4_readWord cX4_readWord 3 none :: v_CLS) ({ frames := d + 16, cells := b.1 - p.2.2.1, slots := b.2 - p.2.2.2, locals := 26 * d + 286 }) (hp_Pc D vwCl (hp_Tl cA) E sz (cd_pic cA ad ca σ) [.ref (ad 4 0), .int a1, .int a2]) (hp_Qv D vwCl (hp_Tl cA) sz (cd_pic cA ad ca σ) (fun u => ∃ ca1, cd_inj ad ca1 ∧ u = cd_pic cA ad ca1 p.2.1)) (b.1 - p.2.2.1) (b.2 - p.2.2.2) (hp_A (cd_pic cA ad ca σ) sz)) (σ0 : cd_S) (b0 : cd_B) (a1 : Int32) (p : (Int32 × cd_S × cd_B)) (h : f_X4_readPrefix n rec σ0 b0 a1 = some (Sum.inl p)) : (p.2.2.1 ≤ b0.1 ∧ p.2.2.2 ≤ b0.2) ∧ Met l yX4_readPrefix (Cond.code yX4_readPrefix cX4_readPrefix 2 none :: v_CLS) ({ frames := (d + 1) + 16, cells := b0.1 - p.2.2.1, slots := b0.2 - p.2.2.2, locals := 26 * (d + 1) + 286 }) (hp_Pc D vwCl (hp_Tl cA) E sz (cd_pic cA ad ca0 σ0) [.ref (ad 4 0), .int a1]) (hp_Qv D vwCl (hp_Tl cA) sz (cd_pic cA ad ca0 σ0) (fun u => ∃ ca1, cd_inj ad ca1 ∧ u = cd_pic cA ad ca1 p.2.1)) (b0.1 - p.2.2.1) (b0.2 - p.2.2.2) (hp_A (cd_pic cA ad ca0 σ0) sz) := by
  obtain ⟨hm0, hn0, h⟩ := cd_cks h
  have hM0 : p.2.2.1 ≤ b0.1 ∧ p.2.2.2 ≤ b0.2 := ⟨hm0, hn0⟩
  refine ⟨hM0, ?_⟩
  refine hp_ofW (cc := cX4_readPrefix) (maxL := 2) (ret := none) (by decide) rfl (Nat.le_of_ble_eq_true rfl) ?_
  intro pp ee ss mm bb mt cd ls cx hsz hw hl
  have hl : lv_has ls 2 [(0, .ref (ad 4 0)), (1, .int a1)] := hl
  refine W.widen (k := b0.1 - b0.1) (n := b0.2 - b0.2) (Nat.zero_le _) (Nat.zero_le _) ?_
  have J140 : ∀ (ca : Nat → Nat) (hj : cd_inj ad ca) (σ : cd_S) (b : cd_B) (l1 : Int32) (H : Heap) (locs : List Loc) (ls : Array Slot), b.1 ≤ b0.1 → b.2 ≤ b0.2 → p.2.2.1 ≤ b.1 → p.2.2.2 ≤ b.2 → f_X4_readPrefix_J140 n rec σ b l1 = some (Sum.inl p) → hp_w D vwCl (hp_Tl cA) E (hp_A (cd_pic cA ad ca0 σ0) sz) ss H locs (cd_pic cA ad ca σ) → lv_has ls 2 [(0, .ref (ad 4 0)), (1, .int l1)] → W pp l ee ({ frames := (d + 1) + 16, cells := b0.1 - p.2.2.1, slots := b0.2 - p.2.2.2, locals := 26 * (d + 1) + 286 }) ss mm [.ref (ad 4 0), .int a1].toArray bb mt cd H locs (b0.1 - b.1) (b0.2 - b.2) (MQ bb (hp_Qv D vwCl (hp_Tl cA) sz (cd_pic cA ad ca0 σ0) (fun u => ∃ ca1, cd_inj ad ca1 ∧ u = cd_pic cA ad ca1 p.2.1)) [.ref (ad 4 0), .int a1].toArray ss (b0.1 - p.2.2.1) (b0.2 - p.2.2.2) (hp_A (cd_pic cA ad ca0 σ0) sz)) (F0 mm 140 ls []) := by
    intro ca hj σ b l1 H locs ls hb1 hb2 hf1 hf2 h hw hl
    refine lv_aload_n cx.1 cx.2.1 dX4_readPrefix_140 rfl (lv_at hl 0 rfl) ?_
    refine lv_iload_n cx.1 cx.2.1 dX4_readPrefix_141 rfl (lv_at hl 1 rfl) ?_
    obtain ⟨q1, e_q1, h⟩ := md_ob h
    obtain ⟨hm2, hn2, h⟩ := cd_cks h
    have hM2 : p.2.2.1 ≤ (Sum.elim (fun (p : Int32 × cd_S × cd_B) => p.2.2) (fun (t : cd_S × cd_B) => t.2) q1).1 ∧ p.2.2.2 ≤ (Sum.elim (fun (p : Int32 × cd_S × cd_B) => p.2.2) (fun (t : cd_S × cd_B) => t.2) q1).2 := ⟨hm2, hn2⟩
    cases q1 with
    | inr t1 =>
      exact nomatch Option.some.inj h
    | inl p1 =>
      have hle1 := (in13 sz _ hj σ b l1 p1 e_q1).1
      have hM10002 : p.2.2.1 ≤ p1.2.2.1 ∧ p.2.2.2 ≤ p1.2.2.2 := hM2
      have h := cd_inl h
      refine hp_callVv (As := [.int l1]) (rest := []) cx hw ((in13 _ _ hj σ b l1 p1 e_q1).2) (cwV 1 cx.2.2.2.2.2.1 (cd_giV cm_910 cm_911 cm_912 cm_663 cm_913) rfl rfl rfl hdc_X4_readPostfix ⟨by (try dsimp only); omega, by (try dsimp only); omega⟩) (cd_atO hj (by decide) (by decide)) rfl rfl hl.1 rfl (Nat.le_of_ble_eq_true rfl) dX4_readPrefix_142 ⟨by (try dsimp only); omega, by (try dsimp only); omega⟩ (fun u H locs hp hw => ?_)
      obtain ⟨ca, hj, rfl⟩ := hp
      refine W.widen (k := b0.1 - p1.2.2.1) (n := b0.2 - p1.2.2.2) (by omega) (by omega) ?_
      exact hp_vret cx hw ((cd_retb hj (congrArg some (Sum.inl.inj (Option.some.inj h)))).2) dX4_readPrefix_145 (cd_le1 (congrArg some (Sum.inl.inj (Option.some.inj h)))) (cd_le2 (congrArg some (Sum.inl.inj (Option.some.inj h))))
  refine lv_aload_n cx.1 cx.2.1 dX4_readPrefix_0 rfl (lv_at hl 0 rfl) ?_
  refine lv_aload_n cx.1 cx.2.1 dX4_readPrefix_1 rfl (lv_at hl 0 rfl) ?_
  refine cd_gO (o2 := 10) (e2 := 0) (o := 4) (k := 0) (f := 128) hj cx hw hic4 rfl ⟨by decide, rfl, by decide, rfl⟩ rfl (by decide) ⟨rfl, rfl⟩ (List.mem_cons_of_mem _ cm_658) dX4_readPrefix_2 ?_
  obtain ⟨p3, e_p3, h⟩ := md_ob h
  refine hp_callVi (As := []) (rest := [.ref (ad 4 0)]) cx hw (kc_X10_beginsPrefix l D cA E _ ad _ hj oq sgq sgv hE n σ0  p3 e_p3) (cwV 0 cx.2.2.2.2.2.1 (cd_giV cm_862 cm_753 cm_754 cm_301 cm_755) rfl rfl rfl hdc_X10_beginsPrefix ⟨by (try dsimp only); omega, by (try dsimp only); omega⟩) (cd_atO hj (by decide) (by decide)) rfl rfl hl.1 rfl (Nat.le_of_ble_eq_true rfl) dX4_readPrefix_5 ⟨by (try dsimp only); omega, by (try dsimp only); omega⟩ (fun r u H locs hp hw => ?_)
  obtain ⟨rfl, ca, hj, rfl⟩ := hp
  obtain ⟨q4, e_q4, h⟩ := md_ob h
  obtain ⟨hm5, hn5, h⟩ := cd_cks h
  have hM5 : p.2.2.1 ≤ (Sum.elim (fun (p : Int32 × cd_S × cd_B) => p.2.2) (fun (t : cd_S × cd_B) => t.2) q4).1 ∧ p.2.2.2 ≤ (Sum.elim (fun (p : Int32 × cd_S × cd_B) => p.2.2) (fun (t : cd_S × cd_B) => t.2) q4).2 := ⟨hm5, hn5⟩
  cases q4 with
  | inr t4 =>
    exact nomatch Option.some.inj h
  | inl p4 =>
    have hle4 := (kc_X4_need l D cA E sz ad _ hj oq sgq sgv hE n p3.2 b0 (p3.1) p4 e_q4).1
    have hM10005 : p.2.2.1 ≤ p4.2.2.1 ∧ p.2.2.2 ≤ p4.2.2.2 := hM5
    have h := cd_inl h
    refine hp_callVv (As := [.int p3.1]) (rest := []) cx hw ((kc_X4_need l D cA E _ ad _ hj oq sgq sgv hE n p3.2 b0 (p3.1) p4 e_q4).2) (cwV 1 cx.2.2.2.2.2.1 (cd_giV cm_666 cm_667 cm_668 cm_663 cm_669) rfl rfl rfl hdc_X4_need ⟨by (try dsimp only); omega, by (try dsimp only); omega⟩) (cd_atO hj (by decide) (by decide)) rfl rfl hl.1 rfl (Nat.le_of_ble_eq_true rfl) dX4_readPrefix_8 ⟨by (try dsimp only); omega, by (try dsimp only); omega⟩ (fun u H locs hp hw => ?_)
    obtain ⟨ca, hj, rfl⟩ := hp
    refine W.widen (k := b0.1 - p4.2.2.1) (n := b0.2 - p4.2.2.2) (by omega) (by omega) ?_
    refine lv_aload_n cx.1 cx.2.1 dX4_readPrefix_11 rfl (lv_at hl 0 rfl) ?_
    refine cd_gO (o2 := 10) (e2 := 0) (o := 4) (k := 0) (f := 128) hj cx hw hic4 rfl ⟨by decide, rfl, by decide, rfl⟩ rfl (by decide) ⟨rfl, rfl⟩ (List.mem_cons_of_mem _ cm_658) dX4_readPrefix_12 ?_
    refine cd_gI (o := 10) (k := 8) (f := 328) hj cx hw hic10 rfl ⟨by decide, rfl, by decide, rfl⟩ rfl (by decide) (List.mem_cons_of_mem _ cm_665) dX4_readPrefix_15 ?_
    by_cases c18_220 : (cI p4.2.1 328 0) = 220
    · refine lv_tableIn (off := 106) (tgt := 124) cx.1 cx.2.1 dX4_readPrefix_18 (by rw [c18_220]; decide) (by rw [c18_220]; decide) (by rw [c18_220]; decide) (by decide) ?_
      have h := md_ip c18_220 h
      refine lv_aload_n cx.1 cx.2.1 dX4_readPrefix_124 rfl (lv_at hl 0 rfl) ?_
      refine lv_iload_n cx.1 cx.2.1 dX4_readPrefix_125 rfl (lv_at hl 1 rfl) ?_
      obtain ⟨q6, e_q6, h⟩ := md_ob h
      obtain ⟨hm7, hn7, h⟩ := cd_cks h
      have hM7 : p.2.2.1 ≤ (Sum.elim (fun (p : Int32 × cd_S × cd_B) => p.2.2) (fun (t : cd_S × cd_B) => t.2) q6).1 ∧ p.2.2.2 ≤ (Sum.elim (fun (p : Int32 × cd_S × cd_B) => p.2.2) (fun (t : cd_S × cd_B) => t.2) q6).2 := ⟨hm7, hn7⟩
      cases q6 with
      | inr t6 =>
        exact nomatch Option.some.inj h
      | inl p6 =>
        have hle6 := (in11 sz _ hj p4.2.1 (p4.2.2) a1 p6 e_q6).1
        have hM10007 : p.2.2.1 ≤ p6.2.2.1 ∧ p.2.2.2 ≤ p6.2.2.2 := hM7
        have h := cd_inl h
        refine hp_callVv (As := [.int a1]) (rest := []) cx hw ((in11 _ _ hj p4.2.1 (p4.2.2) a1 p6 e_q6).2) (cwV 1 cx.2.2.2.2.2.1 (cd_giV cm_898 cm_899 cm_900 cm_663 cm_901) rfl rfl rfl hdc_X4_readPriv ⟨by (try dsimp only); omega, by (try dsimp only); omega⟩) (cd_atO hj (by decide) (by decide)) rfl rfl hl.1 rfl (Nat.le_of_ble_eq_true rfl) dX4_readPrefix_126 ⟨by (try dsimp only); omega, by (try dsimp only); omega⟩ (fun u H locs hp hw => ?_)
        obtain ⟨ca, hj, rfl⟩ := hp
        refine W.widen (k := b0.1 - p6.2.2.1) (n := b0.2 - p6.2.2.2) (by omega) (by omega) ?_
        refine lv_goto (tgt := 145) cx.1 cx.2.1 dX4_readPrefix_129 (by decide) ?_
        exact hp_vret cx hw ((cd_retb hj (congrArg some (Sum.inl.inj (Option.some.inj h)))).2) dX4_readPrefix_145 (cd_le1 (congrArg some (Sum.inl.inj (Option.some.inj h)))) (cd_le2 (congrArg some (Sum.inl.inj (Option.some.inj h))))
    have h := md_in c18_220 h
    by_cases c18_221 : (cI p4.2.1 328 0) = 221
    · refine lv_tableIn (off := 114) (tgt := 132) cx.1 cx.2.1 dX4_readPrefix_18 (by rw [c18_221]; decide) (by rw [c18_221]; decide) (by rw [c18_221]; decide) (by decide) ?_
      have h := md_ip c18_221 h
      refine lv_aload_n cx.1 cx.2.1 dX4_readPrefix_132 rfl (lv_at hl 0 rfl) ?_
      refine lv_iload_n cx.1 cx.2.1 dX4_readPrefix_133 rfl (lv_at hl 1 rfl) ?_
      obtain ⟨q8, e_q8, h⟩ := md_ob h
      obtain ⟨hm9, hn9, h⟩ := cd_cks h
      have hM9 : p.2.2.1 ≤ (Sum.elim (fun (p : Int32 × cd_S × cd_B) => p.2.2) (fun (t : cd_S × cd_B) => t.2) q8).1 ∧ p.2.2.2 ≤ (Sum.elim (fun (p : Int32 × cd_S × cd_B) => p.2.2) (fun (t : cd_S × cd_B) => t.2) q8).2 := ⟨hm9, hn9⟩
      cases q8 with
      | inr t8 =>
        exact nomatch Option.some.inj h
      | inl p8 =>
        have hle8 := (in12 sz _ hj p4.2.1 (p4.2.2) a1 p8 e_q8).1
        have hM10009 : p.2.2.1 ≤ p8.2.2.1 ∧ p.2.2.2 ≤ p8.2.2.2 := hM9
        have h := cd_inl h
        refine hp_callVv (As := [.int a1]) (rest := []) cx hw ((in12 _ _ hj p4.2.1 (p4.2.2) a1 p8 e_q8).2) (cwV 1 cx.2.2.2.2.2.1 (cd_giV cm_902 cm_903 cm_904 cm_663 cm_905) rfl rfl rfl hdc_X4_readUnder ⟨by (try dsimp only); omega, by (try dsimp only); omega⟩) (cd_atO hj (by decide) (by decide)) rfl rfl hl.1 rfl (Nat.le_of_ble_eq_true rfl) dX4_readPrefix_134 ⟨by (try dsimp only); omega, by (try dsimp only); omega⟩ (fun u H locs hp hw => ?_)
        obtain ⟨ca, hj, rfl⟩ := hp
        refine W.widen (k := b0.1 - p8.2.2.1) (n := b0.2 - p8.2.2.2) (by omega) (by omega) ?_
        refine lv_goto (tgt := 145) cx.1 cx.2.1 dX4_readPrefix_137 (by decide) ?_
        exact hp_vret cx hw ((cd_retb hj (congrArg some (Sum.inl.inj (Option.some.inj h)))).2) dX4_readPrefix_145 (cd_le1 (congrArg some (Sum.inl.inj (Option.some.inj h)))) (cd_le2 (congrArg some (Sum.inl.inj (Option.some.inj h))))
    have h := md_in c18_221 h
    by_cases c18_229 : (cI p4.2.1 328 0) = 229
    · refine lv_tableIn (off := 66) (tgt := 84) cx.1 cx.2.1 dX4_readPrefix_18 (by rw [c18_229]; decide) (by rw [c18_229]; decide) (by rw [c18_229]; decide) (by decide) ?_
      have h := md_ip c18_229 h
      refine lv_aload_n cx.1 cx.2.1 dX4_readPrefix_84 rfl (lv_at hl 0 rfl) ?_
      refine lv_bipush (v := 21) cx.1 cx.2.1 dX4_readPrefix_85 (by decide) ?_
      refine lv_iload_n cx.1 cx.2.1 dX4_readPrefix_87 rfl (lv_at hl 1 rfl) ?_
      obtain ⟨q10, e_q10, h⟩ := md_ob h
      obtain ⟨hm11, hn11, h⟩ := cd_cks h
      have hM11 : p.2.2.1 ≤ (Sum.elim (fun (p : Int32 × cd_S × cd_B) => p.2.2) (fun (t : cd_S × cd_B) => t.2) q10).1 ∧ p.2.2.2 ≤ (Sum.elim (fun (p : Int32 × cd_S × cd_B) => p.2.2) (fun (t : cd_S × cd_B) => t.2) q10).2 := ⟨hm11, hn11⟩
      cases q10 with
      | inr t10 =>
        exact nomatch Option.some.inj h
      | inl p10 =>
        have hle10 := (in10 sz _ hj p4.2.1 (p4.2.2) (21 : Int32) a1 p10 e_q10).1
        have hM10011 : p.2.2.1 ≤ p10.2.2.1 ∧ p.2.2.2 ≤ p10.2.2.2 := hM11
        have h := cd_inl h
        refine hp_callVv (As := [.int 21, .int a1]) (rest := []) cx hw ((in10 _ _ hj p4.2.1 (p4.2.2) (21 : Int32) a1 p10 e_q10).2) (cwV 2 cx.2.2.2.2.2.1 (cd_giV cm_906 cm_907 cm_908 cm_663 cm_909) rfl rfl rfl hdc_X4_readWord ⟨by (try dsimp only); omega, by (try dsimp only); omega⟩) (cd_atO hj (by decide) (by decide)) rfl rfl hl.1 rfl (Nat.le_of_ble_eq_true rfl) dX4_readPrefix_88 ⟨by (try dsimp only); omega, by (try dsimp only); omega⟩ (fun u H locs hp hw => ?_)
        obtain ⟨ca, hj, rfl⟩ := hp
        refine W.widen (k := b0.1 - p10.2.2.1) (n := b0.2 - p10.2.2.2) (by omega) (by omega) ?_
        refine lv_goto (tgt := 145) cx.1 cx.2.1 dX4_readPrefix_91 (by decide) ?_
        exact hp_vret cx hw ((cd_retb hj (congrArg some (Sum.inl.inj (Option.some.inj h)))).2) dX4_readPrefix_145 (cd_le1 (congrArg some (Sum.inl.inj (Option.some.inj h)))) (cd_le2 (congrArg some (Sum.inl.inj (Option.some.inj h))))
    have h := md_in c18_229 h
    by_cases c18_230 : (cI p4.2.1 328 0) = 230
    · refine lv_tableIn (off := 86) (tgt := 104) cx.1 cx.2.1 dX4_readPrefix_18 (by rw [c18_230]; decide) (by rw [c18_230]; decide) (by rw [c18_230]; decide) (by decide) ?_
      have h := md_ip c18_230 h
      refine lv_aload_n cx.1 cx.2.1 dX4_readPrefix_104 rfl (lv_at hl 0 rfl) ?_
      refine lv_bipush (v := 23) cx.1 cx.2.1 dX4_readPrefix_105 (by decide) ?_
      refine lv_iload_n cx.1 cx.2.1 dX4_readPrefix_107 rfl (lv_at hl 1 rfl) ?_
      obtain ⟨q12, e_q12, h⟩ := md_ob h
      obtain ⟨hm13, hn13, h⟩ := cd_cks h
      have hM13 : p.2.2.1 ≤ (Sum.elim (fun (p : Int32 × cd_S × cd_B) => p.2.2) (fun (t : cd_S × cd_B) => t.2) q12).1 ∧ p.2.2.2 ≤ (Sum.elim (fun (p : Int32 × cd_S × cd_B) => p.2.2) (fun (t : cd_S × cd_B) => t.2) q12).2 := ⟨hm13, hn13⟩
      cases q12 with
      | inr t12 =>
        exact nomatch Option.some.inj h
      | inl p12 =>
        have hle12 := (in10 sz _ hj p4.2.1 (p4.2.2) (23 : Int32) a1 p12 e_q12).1
        have hM10013 : p.2.2.1 ≤ p12.2.2.1 ∧ p.2.2.2 ≤ p12.2.2.2 := hM13
        have h := cd_inl h
        refine hp_callVv (As := [.int 23, .int a1]) (rest := []) cx hw ((in10 _ _ hj p4.2.1 (p4.2.2) (23 : Int32) a1 p12 e_q12).2) (cwV 2 cx.2.2.2.2.2.1 (cd_giV cm_906 cm_907 cm_908 cm_663 cm_909) rfl rfl rfl hdc_X4_readWord ⟨by (try dsimp only); omega, by (try dsimp only); omega⟩) (cd_atO hj (by decide) (by decide)) rfl rfl hl.1 rfl (Nat.le_of_ble_eq_true rfl) dX4_readPrefix_108 ⟨by (try dsimp only); omega, by (try dsimp only); omega⟩ (fun u H locs hp hw => ?_)
        obtain ⟨ca, hj, rfl⟩ := hp
        refine W.widen (k := b0.1 - p12.2.2.1) (n := b0.2 - p12.2.2.2) (by omega) (by omega) ?_
        refine lv_goto (tgt := 145) cx.1 cx.2.1 dX4_readPrefix_111 (by decide) ?_
        exact hp_vret cx hw ((cd_retb hj (congrArg some (Sum.inl.inj (Option.some.inj h)))).2) dX4_readPrefix_145 (cd_le1 (congrArg some (Sum.inl.inj (Option.some.inj h)))) (cd_le2 (congrArg some (Sum.inl.inj (Option.some.inj h))))
    have h := md_in c18_230 h
    by_cases c18_231 : (cI p4.2.1 328 0) = 231
    · refine lv_tableIn (off := 96) (tgt := 114) cx.1 cx.2.1 dX4_readPrefix_18 (by rw [c18_231]; decide) (by rw [c18_231]; decide) (by rw [c18_231]; decide) (by decide) ?_
      have h := md_ip c18_231 h
      refine lv_aload_n cx.1 cx.2.1 dX4_readPrefix_114 rfl (lv_at hl 0 rfl) ?_
      refine lv_bipush (v := 24) cx.1 cx.2.1 dX4_readPrefix_115 (by decide) ?_
      refine lv_iload_n cx.1 cx.2.1 dX4_readPrefix_117 rfl (lv_at hl 1 rfl) ?_
      obtain ⟨q14, e_q14, h⟩ := md_ob h
      obtain ⟨hm15, hn15, h⟩ := cd_cks h
      have hM15 : p.2.2.1 ≤ (Sum.elim (fun (p : Int32 × cd_S × cd_B) => p.2.2) (fun (t : cd_S × cd_B) => t.2) q14).1 ∧ p.2.2.2 ≤ (Sum.elim (fun (p : Int32 × cd_S × cd_B) => p.2.2) (fun (t : cd_S × cd_B) => t.2) q14).2 := ⟨hm15, hn15⟩
      cases q14 with
      | inr t14 =>
        exact nomatch Option.some.inj h
      | inl p14 =>
        have hle14 := (in10 sz _ hj p4.2.1 (p4.2.2) (24 : Int32) a1 p14 e_q14).1
        have hM10015 : p.2.2.1 ≤ p14.2.2.1 ∧ p.2.2.2 ≤ p14.2.2.2 := hM15
        have h := cd_inl h
        refine hp_callVv (As := [.int 24, .int a1]) (rest := []) cx hw ((in10 _ _ hj p4.2.1 (p4.2.2) (24 : Int32) a1 p14 e_q14).2) (cwV 2 cx.2.2.2.2.2.1 (cd_giV cm_906 cm_907 cm_908 cm_663 cm_909) rfl rfl rfl hdc_X4_readWord ⟨by (try dsimp only); omega, by (try dsimp only); omega⟩) (cd_atO hj (by decide) (by decide)) rfl rfl hl.1 rfl (Nat.le_of_ble_eq_true rfl) dX4_readPrefix_118 ⟨by (try dsimp only); omega, by (try dsimp only); omega⟩ (fun u H locs hp hw => ?_)
        obtain ⟨ca, hj, rfl⟩ := hp
        refine W.widen (k := b0.1 - p14.2.2.1) (n := b0.2 - p14.2.2.2) (by omega) (by omega) ?_
        refine lv_goto (tgt := 145) cx.1 cx.2.1 dX4_readPrefix_121 (by decide) ?_
        exact hp_vret cx hw ((cd_retb hj (congrArg some (Sum.inl.inj (Option.some.inj h)))).2) dX4_readPrefix_145 (cd_le1 (congrArg some (Sum.inl.inj (Option.some.inj h)))) (cd_le2 (congrArg some (Sum.inl.inj (Option.some.inj h))))
    have h := md_in c18_231 h
    by_cases c18_232 : (cI p4.2.1 328 0) = 232
    · refine lv_tableIn (off := 76) (tgt := 94) cx.1 cx.2.1 dX4_readPrefix_18 (by rw [c18_232]; decide) (by rw [c18_232]; decide) (by rw [c18_232]; decide) (by decide) ?_
      have h := md_ip c18_232 h
      refine lv_aload_n cx.1 cx.2.1 dX4_readPrefix_94 rfl (lv_at hl 0 rfl) ?_
      refine lv_bipush (v := 22) cx.1 cx.2.1 dX4_readPrefix_95 (by decide) ?_
      refine lv_iload_n cx.1 cx.2.1 dX4_readPrefix_97 rfl (lv_at hl 1 rfl) ?_
      obtain ⟨q16, e_q16, h⟩ := md_ob h
      obtain ⟨hm17, hn17, h⟩ := cd_cks h
      have hM17 : p.2.2.1 ≤ (Sum.elim (fun (p : Int32 × cd_S × cd_B) => p.2.2) (fun (t : cd_S × cd_B) => t.2) q16).1 ∧ p.2.2.2 ≤ (Sum.elim (fun (p : Int32 × cd_S × cd_B) => p.2.2) (fun (t : cd_S × cd_B) => t.2) q16).2 := ⟨hm17, hn17⟩
      cases q16 with
      | inr t16 =>
        exact nomatch Option.some.inj h
      | inl p16 =>
        have hle16 := (in10 sz _ hj p4.2.1 (p4.2.2) (22 : Int32) a1 p16 e_q16).1
        have hM10017 : p.2.2.1 ≤ p16.2.2.1 ∧ p.2.2.2 ≤ p16.2.2.2 := hM17
        have h := cd_inl h
        refine hp_callVv (As := [.int 22, .int a1]) (rest := []) cx hw ((in10 _ _ hj p4.2.1 (p4.2.2) (22 : Int32) a1 p16 e_q16).2) (cwV 2 cx.2.2.2.2.2.1 (cd_giV cm_906 cm_907 cm_908 cm_663 cm_909) rfl rfl rfl hdc_X4_readWord ⟨by (try dsimp only); omega, by (try dsimp only); omega⟩) (cd_atO hj (by decide) (by decide)) rfl rfl hl.1 rfl (Nat.le_of_ble_eq_true rfl) dX4_readPrefix_98 ⟨by (try dsimp only); omega, by (try dsimp only); omega⟩ (fun u H locs hp hw => ?_)
        obtain ⟨ca, hj, rfl⟩ := hp
        refine W.widen (k := b0.1 - p16.2.2.1) (n := b0.2 - p16.2.2.2) (by omega) (by omega) ?_
        refine lv_goto (tgt := 145) cx.1 cx.2.1 dX4_readPrefix_101 (by decide) ?_
        exact hp_vret cx hw ((cd_retb hj (congrArg some (Sum.inl.inj (Option.some.inj h)))).2) dX4_readPrefix_145 (cd_le1 (congrArg some (Sum.inl.inj (Option.some.inj h)))) (cd_le2 (congrArg some (Sum.inl.inj (Option.some.inj h))))
    have h := md_in c18_232 h
    have nc18_220 := md_nei c18_220
    have nc18_221 := md_nei c18_221
    have nc18_229 := md_nei c18_229
    have nc18_230 := md_nei c18_230
    have nc18_231 := md_nei c18_231
    have nc18_232 := md_nei c18_232
    by_cases c18_222 : (cI p4.2.1 328 0) = 222
    · refine lv_tableIn (off := 122) (tgt := 140) cx.1 cx.2.1 dX4_readPrefix_18 (by rw [c18_222]; decide) (by rw [c18_222]; decide) (by rw [c18_222]; decide) (by decide) ?_
      exact J140 _ hj p4.2.1 (p4.2.2) a1 _ _ _ (by omega) (by omega) (by omega) (by omega) h hw (lv_sub hl [0, 1] rfl)
    have nc18_222 := md_nei c18_222
    by_cases c18_223 : (cI p4.2.1 328 0) = 223
    · refine lv_tableIn (off := 122) (tgt := 140) cx.1 cx.2.1 dX4_readPrefix_18 (by rw [c18_223]; decide) (by rw [c18_223]; decide) (by rw [c18_223]; decide) (by decide) ?_
      exact J140 _ hj p4.2.1 (p4.2.2) a1 _ _ _ (by omega) (by omega) (by omega) (by omega) h hw (lv_sub hl [0, 1] rfl)
    have nc18_223 := md_nei c18_223
    by_cases c18_224 : (cI p4.2.1 328 0) = 224
    · refine lv_tableIn (off := 122) (tgt := 140) cx.1 cx.2.1 dX4_readPrefix_18 (by rw [c18_224]; decide) (by rw [c18_224]; decide) (by rw [c18_224]; decide) (by decide) ?_
      exact J140 _ hj p4.2.1 (p4.2.2) a1 _ _ _ (by omega) (by omega) (by omega) (by omega) h hw (lv_sub hl [0, 1] rfl)
    have nc18_224 := md_nei c18_224
    by_cases c18_225 : (cI p4.2.1 328 0) = 225
    · refine lv_tableIn (off := 122) (tgt := 140) cx.1 cx.2.1 dX4_readPrefix_18 (by rw [c18_225]; decide) (by rw [c18_225]; decide) (by rw [c18_225]; decide) (by decide) ?_
      exact J140 _ hj p4.2.1 (p4.2.2) a1 _ _ _ (by omega) (by omega) (by omega) (by omega) h hw (lv_sub hl [0, 1] rfl)
    have nc18_225 := md_nei c18_225
    by_cases c18_226 : (cI p4.2.1 328 0) = 226
    · refine lv_tableIn (off := 122) (tgt := 140) cx.1 cx.2.1 dX4_readPrefix_18 (by rw [c18_226]; decide) (by rw [c18_226]; decide) (by rw [c18_226]; decide) (by decide) ?_
      exact J140 _ hj p4.2.1 (p4.2.2) a1 _ _ _ (by omega) (by omega) (by omega) (by omega) h hw (lv_sub hl [0, 1] rfl)
    have nc18_226 := md_nei c18_226
    by_cases c18_227 : (cI p4.2.1 328 0) = 227
    · refine lv_tableIn (off := 122) (tgt := 140) cx.1 cx.2.1 dX4_readPrefix_18 (by rw [c18_227]; decide) (by rw [c18_227]; decide) (by rw [c18_227]; decide) (by decide) ?_
      exact J140 _ hj p4.2.1 (p4.2.2) a1 _ _ _ (by omega) (by omega) (by omega) (by omega) h hw (lv_sub hl [0, 1] rfl)
    have nc18_227 := md_nei c18_227
    by_cases c18_228 : (cI p4.2.1 328 0) = 228
    · refine lv_tableIn (off := 122) (tgt := 140) cx.1 cx.2.1 dX4_readPrefix_18 (by rw [c18_228]; decide) (by rw [c18_228]; decide) (by rw [c18_228]; decide) (by decide) ?_
      exact J140 _ hj p4.2.1 (p4.2.2) a1 _ _ _ (by omega) (by omega) (by omega) (by omega) h hw (lv_sub hl [0, 1] rfl)
    have nc18_228 := md_nei c18_228
    refine lv_tableOut (tgt := 140) cx.1 cx.2.1 dX4_readPrefix_18 (by have := nc18_220; rw [show ((220 : Int32)).toInt = 220 from by decide] at this; have := nc18_221; rw [show ((221 : Int32)).toInt = 221 from by decide] at this; have := nc18_229; rw [show ((229 : Int32)).toInt = 229 from by decide] at this; have := nc18_230; rw [show ((230 : Int32)).toInt = 230 from by decide] at this; have := nc18_231; rw [show ((231 : Int32)).toInt = 231 from by decide] at this; have := nc18_232; rw [show ((232 : Int32)).toInt = 232 from by decide] at this; have := nc18_222; rw [show ((222 : Int32)).toInt = 222 from by decide] at this; have := nc18_223; rw [show ((223 : Int32)).toInt = 223 from by decide] at this; have := nc18_224; rw [show ((224 : Int32)).toInt = 224 from by decide] at this; have := nc18_225; rw [show ((225 : Int32)).toInt = 225 from by decide] at this; have := nc18_226; rw [show ((226 : Int32)).toInt = 226 from by decide] at this; have := nc18_227; rw [show ((227 : Int32)).toInt = 227 from by decide] at this; have := nc18_228; rw [show ((228 : Int32)).toInt = 228 from by decide] at this;  omega) (by decide) ?_
    exact J140 _ hj p4.2.1 (p4.2.2) a1 _ _ _ (by omega) (by omega) (by omega) (by omega) h hw (lv_sub hl [0, 1] rfl)
set_option maxHeartbeats 4000000 in
set_option maxRecDepth 100000 in
theorem kc_X4_readProduct (l : Launch) (D : va_G) (cA : Nat → ClassId) (E : hp_N) (sz : Nat) (ad : Nat → Nat → Nat) (ca0 : Nat → Nat) (hj : cd_inj ad ca0) (oq sgq sgv : Nat) (hE : cd_E E oq sgq sgv) (n d : Nat) (rec : cd_R) (in9 : ∀ (sz : Nat) (ca : Nat → Nat) (_ : cd_inj ad ca) (σ : cd_S) (b : cd_B) (a1 : Int32) (p : Int32 × cd_S × cd_B), rec 9 0 a1 0 σ b = some (Sum.inl p) → (p.2.2.1 ≤ b.1 ∧ p.2.2.2 ≤ b.2) ∧ Met l yX4_readPrefix (Cond.code yX4_readPrefix cX4_readPrefix 2 none :: v_CLS) ({ frames := d + 16, cells := b.1 - p.2.2.1, slots := b.2 - p.2.2.2, locals := 26 * d + 286 }) (hp_Pc D vwCl (hp_Tl cA) E sz (cd_pic cA ad ca σ) [.ref (ad 4 0), .int a1]) (hp_Qv D vwCl (hp_Tl cA) sz (cd_pic cA ad ca σ) (fun u => ∃ ca1, cd_inj ad ca1 ∧ u = cd_pic cA ad ca1 p.2.1)) (b.1 - p.2.2.1) (b.2 - p.2.2.2) (hp_A (cd_pic cA ad ca σ) sz)) (σ0 : cd_S) (b0 : cd_B) (a1 : Int32) (p : (Int32 × cd_S × cd_B)) (h : f_X4_readProduct n rec σ0 b0 a1 = some (Sum.inl p)) : (p.2.2.1 ≤ b0.1 ∧ p.2.2.2 ≤ b0.2) ∧ Met l yX4_readProduct (Cond.code yX4_readProduct cX4_readProduct 3 none :: v_CLS) ({ frames := (d + 1) + 16, cells := b0.1 - p.2.2.1, slots := b0.2 - p.2.2.2, locals := 26 * (d + 1) + 286 }) (hp_Pc D vwCl (hp_Tl cA) E sz (cd_pic cA ad ca0 σ0) [.ref (ad 4 0), .int a1]) (hp_Qv D vwCl (hp_Tl cA) sz (cd_pic cA ad ca0 σ0) (fun u => ∃ ca1, cd_inj ad ca1 ∧ u = cd_pic cA ad ca1 p.2.1)) (b0.1 - p.2.2.1) (b0.2 - p.2.2.2) (hp_A (cd_pic cA ad ca0 σ0) sz) := by
  obtain ⟨hm0, hn0, h⟩ := cd_cks h
  have hM0 : p.2.2.1 ≤ b0.1 ∧ p.2.2.2 ≤ b0.2 := ⟨hm0, hn0⟩
  refine ⟨hM0, ?_⟩
  refine hp_ofW (cc := cX4_readProduct) (maxL := 3) (ret := none) (by decide) rfl (Nat.le_of_ble_eq_true rfl) ?_
  intro pp ee ss mm bb mt cd ls cx hsz hw hl
  have hl : lv_has ls 3 [(0, .ref (ad 4 0)), (1, .int a1)] := hl
  refine W.widen (k := b0.1 - b0.1) (n := b0.2 - b0.2) (Nat.zero_le _) (Nat.zero_le _) ?_
  refine lv_aload_n cx.1 cx.2.1 dX4_readProduct_0 rfl (lv_at hl 0 rfl) ?_
  refine lv_iload_n cx.1 cx.2.1 dX4_readProduct_1 rfl (lv_at hl 1 rfl) ?_
  obtain ⟨q1, e_q1, h⟩ := md_ob h
  obtain ⟨hm2, hn2, h⟩ := cd_cks h
  have hM2 : p.2.2.1 ≤ (Sum.elim (fun (p : Int32 × cd_S × cd_B) => p.2.2) (fun (t : cd_S × cd_B) => t.2) q1).1 ∧ p.2.2.2 ≤ (Sum.elim (fun (p : Int32 × cd_S × cd_B) => p.2.2) (fun (t : cd_S × cd_B) => t.2) q1).2 := ⟨hm2, hn2⟩
  cases q1 with
  | inr t1 =>
    exact nomatch Option.some.inj h
  | inl p1 =>
    have hle1 := (in9 sz _ hj σ0 b0 a1 p1 e_q1).1
    have hM10002 : p.2.2.1 ≤ p1.2.2.1 ∧ p.2.2.2 ≤ p1.2.2.2 := hM2
    have h := cd_inl h
    refine hp_callVv (As := [.int a1]) (rest := []) cx hw ((in9 _ _ hj σ0 b0 a1 p1 e_q1).2) (cwV 1 cx.2.2.2.2.2.1 (cd_giV cm_863 cm_864 cm_865 cm_663 cm_866) rfl rfl rfl hdc_X4_readPrefix ⟨by (try dsimp only); omega, by (try dsimp only); omega⟩) (cd_atO hj (by decide) (by decide)) rfl rfl hl.1 rfl (Nat.le_of_ble_eq_true rfl) dX4_readProduct_2 ⟨by (try dsimp only); omega, by (try dsimp only); omega⟩ (fun u H locs hp hw => ?_)
    obtain ⟨ca, hj, rfl⟩ := hp
    refine W.widen (k := b0.1 - p1.2.2.1) (n := b0.2 - p1.2.2.2) (by omega) (by omega) ?_
    refine lv_iconst (v := 0) cx.1 cx.2.1 dX4_readProduct_5 (by decide) ?_
    refine lv_istore_n (lv' := [(2, .int 0), (0, .ref (ad 4 0)), (1, .int a1)]) cx.1 cx.2.1 dX4_readProduct_6 rfl hl (by decide) rfl (fun ls hl => ?_)
    have L7 : ∀ (j : Nat) (ca : Nat → Nat) (hj : cd_inj ad ca) (σ : cd_S) (b : cd_B) (l1 : Int32) (l2 : Int32) (q : (((Int32 × cd_S × cd_B) ⊕ (cd_S × cd_B)) ⊕ (cd_S × cd_B × Int32))) (H : Heap) (locs : List Loc) (ls : Array Slot), b.1 ≤ b0.1 → b.2 ≤ b0.2 → p.2.2.1 ≤ b.1 → p.2.2.2 ≤ b.2 → p.2.2.1 ≤ (Sum.elim (fun (q : ((Int32 × cd_S × cd_B) ⊕ (cd_S × cd_B))) => Sum.elim (fun (p : (Int32 × cd_S × cd_B)) => p.2.2) (fun (t : cd_S × cd_B) => t.2) q) (fun (q : cd_S × cd_B × Int32) => q.2.1) q).1 → p.2.2.2 ≤ (Sum.elim (fun (q : ((Int32 × cd_S × cd_B) ⊕ (cd_S × cd_B))) => Sum.elim (fun (p : (Int32 × cd_S × cd_B)) => p.2.2) (fun (t : cd_S × cd_B) => t.2) q) (fun (q : cd_S × cd_B × Int32) => q.2.1) q).2 → f_X4_readProduct_L7 n rec l1 j σ b l2 = some q → hp_w D vwCl (hp_Tl cA) E (hp_A (cd_pic cA ad ca0 σ0) sz) ss H locs (cd_pic cA ad ca σ) → lv_has ls 3 [(0, .ref (ad 4 0)), (1, .int l1), (2, .int l2)] → (∀ t, q = Sum.inr t → (∀ (ca : Nat → Nat) (hj : cd_inj ad ca) (H : Heap) (locs : List Loc) (ls : Array Slot), t.2.1.1 ≤ b0.1 → t.2.1.2 ≤ b0.2 → hp_w D vwCl (hp_Tl cA) E (hp_A (cd_pic cA ad ca0 σ0) sz) ss H locs (cd_pic cA ad ca t.1) → lv_has ls 3 [] → W pp l ee ({ frames := (d + 1) + 16, cells := b0.1 - p.2.2.1, slots := b0.2 - p.2.2.2, locals := 26 * (d + 1) + 286 }) ss mm [.ref (ad 4 0), .int a1].toArray bb mt cd H locs (b0.1 - t.2.1.1) (b0.2 - t.2.1.2) (MQ bb (hp_Qv D vwCl (hp_Tl cA) sz (cd_pic cA ad ca0 σ0) (fun u => ∃ ca1, cd_inj ad ca1 ∧ u = cd_pic cA ad ca1 p.2.1)) [.ref (ad 4 0), .int a1].toArray ss (b0.1 - p.2.2.1) (b0.2 - p.2.2.2) (hp_A (cd_pic cA ad ca0 σ0) sz)) (F0 mm 59 ls []))) → (∀ r, q = Sum.inl r → r = Sum.inl p) → W pp l ee ({ frames := (d + 1) + 16, cells := b0.1 - p.2.2.1, slots := b0.2 - p.2.2.2, locals := 26 * (d + 1) + 286 }) ss mm [.ref (ad 4 0), .int a1].toArray bb mt cd H locs (b0.1 - b.1) (b0.2 - b.2) (MQ bb (hp_Qv D vwCl (hp_Tl cA) sz (cd_pic cA ad ca0 σ0) (fun u => ∃ ca1, cd_inj ad ca1 ∧ u = cd_pic cA ad ca1 p.2.1)) [.ref (ad 4 0), .int a1].toArray ss (b0.1 - p.2.2.1) (b0.2 - p.2.2.2) (hp_A (cd_pic cA ad ca0 σ0) sz)) (F0 mm 7 ls []) := by
      intro j
      induction j with
      | zero => intro ca hj σ b l1 l2 q H locs ls hb1 hb2 hf1 hf2 hq1 hq2 h; exact nomatch h
      | succ j ih =>
        intro ca hj σ b l1 l2 q H locs ls hb1 hb2 hf1 hf2 hq1 hq2 h hw hl K KR
        unfold f_X4_readProduct_L7 at h
        refine lv_iload_n cx.1 cx.2.1 dX4_readProduct_7 rfl (lv_at hl 2 rfl) ?_
        refine lv_sipush (v := 3000) cx.1 cx.2.1 dX4_readProduct_8 (by decide) ?_
        refine lv_icmp_ge (tgt := 59) cx.1 cx.2.1 dX4_readProduct_11 (by decide) (fun c11 => ?_) (fun c11 => ?_)
        · have h := md_ip c11 h
          exact K _ (Option.some.inj h).symm _ hj _ _ _ (by (try dsimp only); omega) (by (try dsimp only); omega) hw (lv_sub hl [] rfl)
        · have h := md_in c11 h
          refine lv_aload_n cx.1 cx.2.1 dX4_readProduct_14 rfl (lv_at hl 0 rfl) ?_
          refine cd_gO (o2 := 10) (e2 := 0) (o := 4) (k := 0) (f := 128) hj cx hw hic4 rfl ⟨by decide, rfl, by decide, rfl⟩ rfl (by decide) ⟨rfl, rfl⟩ (List.mem_cons_of_mem _ cm_658) dX4_readProduct_15 ?_
          refine cd_gI (o := 10) (k := 8) (f := 328) hj cx hw hic10 rfl ⟨by decide, rfl, by decide, rfl⟩ rfl (by decide) (List.mem_cons_of_mem _ cm_665) dX4_readProduct_18 ?_
          refine lv_bipush (v := 42) cx.1 cx.2.1 dX4_readProduct_21 (by decide) ?_
          refine lv_icmp_ne (tgt := 59) cx.1 cx.2.1 dX4_readProduct_23 (by decide) (fun c23 => ?_) (fun c23 => ?_)
          · have h := md_in c23 h
            exact K _ (Option.some.inj h).symm _ hj _ _ _ (by (try dsimp only); omega) (by (try dsimp only); omega) hw (lv_sub hl [] rfl)
          · have h := md_ip c23 h
            refine lv_aload_n cx.1 cx.2.1 dX4_readProduct_26 rfl (lv_at hl 0 rfl) ?_
            obtain ⟨q3, e_q3, h⟩ := md_ob h
            obtain ⟨hm4, hn4, h⟩ := cd_cks h
            have hM4 : p.2.2.1 ≤ (Sum.elim (fun (p : Int32 × cd_S × cd_B) => p.2.2) (fun (t : cd_S × cd_B) => t.2) q3).1 ∧ p.2.2.2 ≤ (Sum.elim (fun (p : Int32 × cd_S × cd_B) => p.2.2) (fun (t : cd_S × cd_B) => t.2) q3).2 := ⟨Nat.le_trans hq1 hm4, Nat.le_trans hq2 hn4⟩
            cases q3 with
            | inr t3 =>
              exact nomatch KR _ (Option.some.inj h).symm
            | inl p3 =>
              have hle3 := (kc_X4_part l D cA E sz ad _ hj oq sgq sgv hE n σ b  p3 e_q3).1
              have hM10004 : p.2.2.1 ≤ p3.2.2.1 ∧ p.2.2.2 ≤ p3.2.2.2 := hM4
              have h := cd_inl h
              refine hp_callVv (As := []) (rest := []) cx hw ((kc_X4_part l D cA E _ ad _ hj oq sgq sgv hE n σ b  p3 e_q3).2) (cwV 0 cx.2.2.2.2.2.1 (cd_giV cm_764 cm_765 cm_766 cm_663 cm_767) rfl rfl rfl hdc_X4_part ⟨by (try dsimp only); omega, by (try dsimp only); omega⟩) (cd_atO hj (by decide) (by decide)) rfl rfl hl.1 rfl (Nat.le_of_ble_eq_true rfl) dX4_readProduct_27 ⟨by (try dsimp only); omega, by (try dsimp only); omega⟩ (fun u H locs hp hw => ?_)
              obtain ⟨ca, hj, rfl⟩ := hp
              refine W.widen (k := b0.1 - p3.2.2.1) (n := b0.2 - p3.2.2.2) (by omega) (by omega) ?_
              refine lv_aload_n cx.1 cx.2.1 dX4_readProduct_30 rfl (lv_at hl 0 rfl) ?_
              refine cd_gO (o2 := 10) (e2 := 0) (o := 4) (k := 0) (f := 128) hj cx hw hic4 rfl ⟨by decide, rfl, by decide, rfl⟩ rfl (by decide) ⟨rfl, rfl⟩ (List.mem_cons_of_mem _ cm_658) dX4_readProduct_31 ?_
              obtain ⟨p5, e_p5, h⟩ := md_ob h
              refine hp_callVv (As := []) (rest := []) cx hw (kc_X10_advance l D cA E _ ad _ hj oq sgq sgv hE n p3.2.1  p5 e_p5) (cwV 0 cx.2.2.2.2.2.1 (cd_giV cm_670 cm_671 cm_672 cm_301 cm_673) rfl rfl rfl hdc_X10_advance ⟨by (try dsimp only); omega, by (try dsimp only); omega⟩) (cd_atO hj (by decide) (by decide)) rfl rfl hl.1 rfl (Nat.le_of_ble_eq_true rfl) dX4_readProduct_34 ⟨by (try dsimp only); omega, by (try dsimp only); omega⟩ (fun u H locs hp hw => ?_)
              obtain ⟨ca, hj, rfl⟩ := hp
              refine lv_aload_n cx.1 cx.2.1 dX4_readProduct_37 rfl (lv_at hl 0 rfl) ?_
              refine lv_iload_n cx.1 cx.2.1 dX4_readProduct_38 rfl (lv_at hl 1 rfl) ?_
              obtain ⟨q6, e_q6, h⟩ := md_ob h
              obtain ⟨hm7, hn7, h⟩ := cd_cks h
              have hM7 : p.2.2.1 ≤ (Sum.elim (fun (p : Int32 × cd_S × cd_B) => p.2.2) (fun (t : cd_S × cd_B) => t.2) q6).1 ∧ p.2.2.2 ≤ (Sum.elim (fun (p : Int32 × cd_S × cd_B) => p.2.2) (fun (t : cd_S × cd_B) => t.2) q6).2 := ⟨Nat.le_trans hq1 hm7, Nat.le_trans hq2 hn7⟩
              cases q6 with
              | inr t6 =>
                exact nomatch KR _ (Option.some.inj h).symm
              | inl p6 =>
                have hle6 := (in9 sz _ hj p5.2 (p3.2.2) l1 p6 e_q6).1
                have hM10007 : p.2.2.1 ≤ p6.2.2.1 ∧ p.2.2.2 ≤ p6.2.2.2 := hM7
                have h := cd_inl h
                refine hp_callVv (As := [.int l1]) (rest := []) cx hw ((in9 _ _ hj p5.2 (p3.2.2) l1 p6 e_q6).2) (cwV 1 cx.2.2.2.2.2.1 (cd_giV cm_863 cm_864 cm_865 cm_663 cm_866) rfl rfl rfl hdc_X4_readPrefix ⟨by (try dsimp only); omega, by (try dsimp only); omega⟩) (cd_atO hj (by decide) (by decide)) rfl rfl hl.1 rfl (Nat.le_of_ble_eq_true rfl) dX4_readProduct_39 ⟨by (try dsimp only); omega, by (try dsimp only); omega⟩ (fun u H locs hp hw => ?_)
                obtain ⟨ca, hj, rfl⟩ := hp
                refine W.widen (k := b0.1 - p6.2.2.1) (n := b0.2 - p6.2.2.2) (by omega) (by omega) ?_
                refine lv_aload_n cx.1 cx.2.1 dX4_readProduct_42 rfl (lv_at hl 0 rfl) ?_
                obtain ⟨u8, e_u8, h⟩ := md_ob h
                have hb_u8 : u8 < 60 := (cd_dps e_u8).2
                refine cd_gP (o2 := 9) (u := u8) (o := 4) (k := 8) (f := 136) hj cx hw hic4 rfl ⟨by decide, rfl, by decide, rfl⟩ rfl (by decide) rfl e_u8 (List.mem_cons_of_mem _ cm_749) dX4_readProduct_43 ?_
                refine lv_bipush (v := 13) cx.1 cx.2.1 dX4_readProduct_46 (by decide) ?_
                refine lv_iconst (v := 0) cx.1 cx.2.1 dX4_readProduct_48 (by decide) ?_
                refine lv_iconst (v := 0) cx.1 cx.2.1 dX4_readProduct_49 (by decide) ?_
                obtain ⟨p9, e_p9, h⟩ := md_ob h
                obtain ⟨hm10, hn10, h⟩ := cd_cks h
                have hM10 : p.2.2.1 ≤ p9.2.2.1 ∧ p.2.2.2 ≤ p9.2.2.2 := ⟨Nat.le_trans hq1 hm10, Nat.le_trans hq2 hn10⟩
                have hle9 := (kc_X9_emit l D cA E sz ad _ hj oq sgq sgv hE n p6.2.1 (p6.2.2) u8 (13 : Int32) (0 : Int32) (0 : Int32) (show _ < 60 by omega) p9 e_p9).1
                refine hp_callVv (As := [.int 13, .int 0, .int 0]) (rest := []) cx hw ((kc_X9_emit l D cA E _ ad _ hj oq sgq sgv hE n p6.2.1 (p6.2.2) u8 (13 : Int32) (0 : Int32) (0 : Int32) (show _ < 60 by omega) p9 e_p9).2) (cwV 3 cx.2.2.2.2.2.1 (cd_giV cm_781 cm_782 cm_783 cm_114 cm_784) rfl rfl rfl hdc_X9_emit ⟨by (try dsimp only); omega, by (try dsimp only); omega⟩) (cd_atO hj (by decide) (show _ < 60 by omega)) rfl rfl hl.1 rfl (Nat.le_of_ble_eq_true rfl) dX4_readProduct_50 ⟨by (try dsimp only); omega, by (try dsimp only); omega⟩ (fun u H locs hp hw => ?_)
                obtain ⟨ca, hj, rfl⟩ := hp
                refine W.widen (k := b0.1 - p9.2.2.1) (n := b0.2 - p9.2.2.2) (by omega) (by omega) ?_
                refine lv_iinc (v := (l2 + 1)) (lv' := [(2, .int (l2 + 1)), (0, .ref (ad 4 0)), (1, .int l1)]) cx.1 cx.2.1 dX4_readProduct_53 hl (k := 2) rfl rfl (by decide) rfl (fun ls hl => ?_)
                refine lv_goto (tgt := 7) cx.1 cx.2.1 dX4_readProduct_56 (by decide) ?_
                exact ih _ hj p9.2.1 (p9.2.2) l1 ((l2 + 1)) q _ _ _ (by omega) (by omega) (by omega) (by omega) hq1 hq2 h hw (lv_sub hl [1, 2, 0] rfl) K KR
    obtain ⟨q11, e_q11, h⟩ := md_ob h
    obtain ⟨hm12, hn12, h⟩ := cd_cks h
    have hM12 : p.2.2.1 ≤ (Sum.elim (fun (q : ((Int32 × cd_S × cd_B) ⊕ (cd_S × cd_B))) => Sum.elim (fun (p : (Int32 × cd_S × cd_B)) => p.2.2) (fun (t : cd_S × cd_B) => t.2) q) (fun (q : cd_S × cd_B × Int32) => q.2.1) q11).1 ∧ p.2.2.2 ≤ (Sum.elim (fun (q : ((Int32 × cd_S × cd_B) ⊕ (cd_S × cd_B))) => Sum.elim (fun (p : (Int32 × cd_S × cd_B)) => p.2.2) (fun (t : cd_S × cd_B) => t.2) q) (fun (q : cd_S × cd_B × Int32) => q.2.1) q11).2 := ⟨hm12, hn12⟩
    refine L7 n _ hj p1.2.1 (p1.2.2) a1 0 q11 _ _ _ (by omega) (by omega) (by omega) (by omega) hM12.1 hM12.2 e_q11 hw (lv_sub hl [1, 2, 0] rfl) (fun t11 hq11 ca hj H locs ls hb1 hb2 hw hl => ?_) (fun r hr => by subst hr; exact Option.some.inj h)
    subst hq11
    have h := md_inr h
    have hS12 : p.2.2.1 ≤ t11.2.1.1 ∧ p.2.2.2 ≤ t11.2.1.2 := hM12
    exact hp_vret cx hw ((cd_retb hj (congrArg some (Sum.inl.inj (Option.some.inj h)))).2) dX4_readProduct_59 (cd_le1 (congrArg some (Sum.inl.inj (Option.some.inj h)))) (cd_le2 (congrArg some (Sum.inl.inj (Option.some.inj h))))
set_option maxHeartbeats 4000000 in
set_option maxRecDepth 100000 in
theorem kc_X4_readSum (l : Launch) (D : va_G) (cA : Nat → ClassId) (E : hp_N) (sz : Nat) (ad : Nat → Nat → Nat) (ca0 : Nat → Nat) (hj : cd_inj ad ca0) (oq sgq sgv : Nat) (hE : cd_E E oq sgq sgv) (n d : Nat) (rec : cd_R) (in7 : ∀ (sz : Nat) (ca : Nat → Nat) (_ : cd_inj ad ca) (σ : cd_S) (b : cd_B) (a1 : Int32) (p : Int32 × cd_S × cd_B), rec 7 0 a1 0 σ b = some (Sum.inl p) → (p.2.2.1 ≤ b.1 ∧ p.2.2.2 ≤ b.2) ∧ Met l yX4_readProduct (Cond.code yX4_readProduct cX4_readProduct 3 none :: v_CLS) ({ frames := d + 16, cells := b.1 - p.2.2.1, slots := b.2 - p.2.2.2, locals := 26 * d + 286 }) (hp_Pc D vwCl (hp_Tl cA) E sz (cd_pic cA ad ca σ) [.ref (ad 4 0), .int a1]) (hp_Qv D vwCl (hp_Tl cA) sz (cd_pic cA ad ca σ) (fun u => ∃ ca1, cd_inj ad ca1 ∧ u = cd_pic cA ad ca1 p.2.1)) (b.1 - p.2.2.1) (b.2 - p.2.2.2) (hp_A (cd_pic cA ad ca σ) sz)) (σ0 : cd_S) (b0 : cd_B) (a1 : Int32) (p : (Int32 × cd_S × cd_B)) (h : f_X4_readSum n rec σ0 b0 a1 = some (Sum.inl p)) : (p.2.2.1 ≤ b0.1 ∧ p.2.2.2 ≤ b0.2) ∧ Met l yX4_readSum (Cond.code yX4_readSum cX4_readSum 4 none :: v_CLS) ({ frames := (d + 1) + 16, cells := b0.1 - p.2.2.1, slots := b0.2 - p.2.2.2, locals := 26 * (d + 1) + 286 }) (hp_Pc D vwCl (hp_Tl cA) E sz (cd_pic cA ad ca0 σ0) [.ref (ad 4 0), .int a1]) (hp_Qv D vwCl (hp_Tl cA) sz (cd_pic cA ad ca0 σ0) (fun u => ∃ ca1, cd_inj ad ca1 ∧ u = cd_pic cA ad ca1 p.2.1)) (b0.1 - p.2.2.1) (b0.2 - p.2.2.2) (hp_A (cd_pic cA ad ca0 σ0) sz) := by
  obtain ⟨hm0, hn0, h⟩ := cd_cks h
  have hM0 : p.2.2.1 ≤ b0.1 ∧ p.2.2.2 ≤ b0.2 := ⟨hm0, hn0⟩
  refine ⟨hM0, ?_⟩
  refine hp_ofW (cc := cX4_readSum) (maxL := 4) (ret := none) (by decide) rfl (Nat.le_of_ble_eq_true rfl) ?_
  intro pp ee ss mm bb mt cd ls cx hsz hw hl
  have hl : lv_has ls 4 [(0, .ref (ad 4 0)), (1, .int a1)] := hl
  refine W.widen (k := b0.1 - b0.1) (n := b0.2 - b0.2) (Nat.zero_le _) (Nat.zero_le _) ?_
  refine lv_aload_n cx.1 cx.2.1 dX4_readSum_0 rfl (lv_at hl 0 rfl) ?_
  refine lv_iload_n cx.1 cx.2.1 dX4_readSum_1 rfl (lv_at hl 1 rfl) ?_
  obtain ⟨q1, e_q1, h⟩ := md_ob h
  obtain ⟨hm2, hn2, h⟩ := cd_cks h
  have hM2 : p.2.2.1 ≤ (Sum.elim (fun (p : Int32 × cd_S × cd_B) => p.2.2) (fun (t : cd_S × cd_B) => t.2) q1).1 ∧ p.2.2.2 ≤ (Sum.elim (fun (p : Int32 × cd_S × cd_B) => p.2.2) (fun (t : cd_S × cd_B) => t.2) q1).2 := ⟨hm2, hn2⟩
  cases q1 with
  | inr t1 =>
    exact nomatch Option.some.inj h
  | inl p1 =>
    have hle1 := (in7 sz _ hj σ0 b0 a1 p1 e_q1).1
    have hM10002 : p.2.2.1 ≤ p1.2.2.1 ∧ p.2.2.2 ≤ p1.2.2.2 := hM2
    have h := cd_inl h
    refine hp_callVv (As := [.int a1]) (rest := []) cx hw ((in7 _ _ hj σ0 b0 a1 p1 e_q1).2) (cwV 1 cx.2.2.2.2.2.1 (cd_giV cm_914 cm_915 cm_916 cm_663 cm_917) rfl rfl rfl hdc_X4_readProduct ⟨by (try dsimp only); omega, by (try dsimp only); omega⟩) (cd_atO hj (by decide) (by decide)) rfl rfl hl.1 rfl (Nat.le_of_ble_eq_true rfl) dX4_readSum_2 ⟨by (try dsimp only); omega, by (try dsimp only); omega⟩ (fun u H locs hp hw => ?_)
    obtain ⟨ca, hj, rfl⟩ := hp
    refine W.widen (k := b0.1 - p1.2.2.1) (n := b0.2 - p1.2.2.2) (by omega) (by omega) ?_
    refine lv_iconst (v := 0) cx.1 cx.2.1 dX4_readSum_5 (by decide) ?_
    refine lv_istore_n (lv' := [(2, .int 0), (0, .ref (ad 4 0)), (1, .int a1)]) cx.1 cx.2.1 dX4_readSum_6 rfl hl (by decide) rfl (fun ls hl => ?_)
    have L7 : ∀ (j : Nat) (ca : Nat → Nat) (hj : cd_inj ad ca) (σ : cd_S) (b : cd_B) (l1 : Int32) (l2 : Int32) (q : (((Int32 × cd_S × cd_B) ⊕ (cd_S × cd_B)) ⊕ (cd_S × cd_B × Int32))) (H : Heap) (locs : List Loc) (ls : Array Slot), b.1 ≤ b0.1 → b.2 ≤ b0.2 → p.2.2.1 ≤ b.1 → p.2.2.2 ≤ b.2 → p.2.2.1 ≤ (Sum.elim (fun (q : ((Int32 × cd_S × cd_B) ⊕ (cd_S × cd_B))) => Sum.elim (fun (p : (Int32 × cd_S × cd_B)) => p.2.2) (fun (t : cd_S × cd_B) => t.2) q) (fun (q : cd_S × cd_B × Int32) => q.2.1) q).1 → p.2.2.2 ≤ (Sum.elim (fun (q : ((Int32 × cd_S × cd_B) ⊕ (cd_S × cd_B))) => Sum.elim (fun (p : (Int32 × cd_S × cd_B)) => p.2.2) (fun (t : cd_S × cd_B) => t.2) q) (fun (q : cd_S × cd_B × Int32) => q.2.1) q).2 → f_X4_readSum_L7 n rec l1 j σ b l2 = some q → hp_w D vwCl (hp_Tl cA) E (hp_A (cd_pic cA ad ca0 σ0) sz) ss H locs (cd_pic cA ad ca σ) → lv_has ls 4 [(0, .ref (ad 4 0)), (1, .int l1), (2, .int l2)] → (∀ t, q = Sum.inr t → (∀ (ca : Nat → Nat) (hj : cd_inj ad ca) (H : Heap) (locs : List Loc) (ls : Array Slot), t.2.1.1 ≤ b0.1 → t.2.1.2 ≤ b0.2 → hp_w D vwCl (hp_Tl cA) E (hp_A (cd_pic cA ad ca0 σ0) sz) ss H locs (cd_pic cA ad ca t.1) → lv_has ls 4 [] → W pp l ee ({ frames := (d + 1) + 16, cells := b0.1 - p.2.2.1, slots := b0.2 - p.2.2.2, locals := 26 * (d + 1) + 286 }) ss mm [.ref (ad 4 0), .int a1].toArray bb mt cd H locs (b0.1 - t.2.1.1) (b0.2 - t.2.1.2) (MQ bb (hp_Qv D vwCl (hp_Tl cA) sz (cd_pic cA ad ca0 σ0) (fun u => ∃ ca1, cd_inj ad ca1 ∧ u = cd_pic cA ad ca1 p.2.1)) [.ref (ad 4 0), .int a1].toArray ss (b0.1 - p.2.2.1) (b0.2 - p.2.2.2) (hp_A (cd_pic cA ad ca0 σ0) sz)) (F0 mm 90 ls []))) → (∀ r, q = Sum.inl r → r = Sum.inl p) → W pp l ee ({ frames := (d + 1) + 16, cells := b0.1 - p.2.2.1, slots := b0.2 - p.2.2.2, locals := 26 * (d + 1) + 286 }) ss mm [.ref (ad 4 0), .int a1].toArray bb mt cd H locs (b0.1 - b.1) (b0.2 - b.2) (MQ bb (hp_Qv D vwCl (hp_Tl cA) sz (cd_pic cA ad ca0 σ0) (fun u => ∃ ca1, cd_inj ad ca1 ∧ u = cd_pic cA ad ca1 p.2.1)) [.ref (ad 4 0), .int a1].toArray ss (b0.1 - p.2.2.1) (b0.2 - p.2.2.2) (hp_A (cd_pic cA ad ca0 σ0) sz)) (F0 mm 7 ls []) := by
      intro j
      induction j with
      | zero => intro ca hj σ b l1 l2 q H locs ls hb1 hb2 hf1 hf2 hq1 hq2 h; exact nomatch h
      | succ j ih =>
        intro ca hj σ b l1 l2 q H locs ls hb1 hb2 hf1 hf2 hq1 hq2 h hw hl K KR
        unfold f_X4_readSum_L7 at h
        have J57 : ∀ (ca : Nat → Nat) (hj : cd_inj ad ca) (σ : cd_S) (b : cd_B) (l2 : Int32) (t0 : Int32) (H : Heap) (locs : List Loc) (ls : Array Slot), b.1 ≤ b0.1 → b.2 ≤ b0.2 → p.2.2.1 ≤ b.1 → p.2.2.2 ≤ b.2 → f_X4_readSum_J57 n rec l1 (f_X4_readSum_L7 n rec l1 j) σ b l2 t0 = some q → hp_w D vwCl (hp_Tl cA) E (hp_A (cd_pic cA ad ca0 σ0) sz) ss H locs (cd_pic cA ad ca σ) → lv_has ls 4 [(0, .ref (ad 4 0)), (1, .int l1), (2, .int l2)] → W pp l ee ({ frames := (d + 1) + 16, cells := b0.1 - p.2.2.1, slots := b0.2 - p.2.2.2, locals := 26 * (d + 1) + 286 }) ss mm [.ref (ad 4 0), .int a1].toArray bb mt cd H locs (b0.1 - b.1) (b0.2 - b.2) (MQ bb (hp_Qv D vwCl (hp_Tl cA) sz (cd_pic cA ad ca0 σ0) (fun u => ∃ ca1, cd_inj ad ca1 ∧ u = cd_pic cA ad ca1 p.2.1)) [.ref (ad 4 0), .int a1].toArray ss (b0.1 - p.2.2.1) (b0.2 - p.2.2.2) (hp_A (cd_pic cA ad ca0 σ0) sz)) (F0 mm 57 ls [.int t0]) := by
          intro ca hj σ b l2 t0 H locs ls hb1 hb2 hf1 hf2 h hw hl
          refine lv_istore_n (lv' := [(3, .int t0), (0, .ref (ad 4 0)), (1, .int l1), (2, .int l2)]) cx.1 cx.2.1 dX4_readSum_57 rfl hl (by decide) rfl (fun ls hl => ?_)
          refine lv_aload_n cx.1 cx.2.1 dX4_readSum_58 rfl (lv_at hl 1 rfl) ?_
          obtain ⟨q3, e_q3, h⟩ := md_ob h
          obtain ⟨hm4, hn4, h⟩ := cd_cks h
          have hM4 : p.2.2.1 ≤ (Sum.elim (fun (p : Int32 × cd_S × cd_B) => p.2.2) (fun (t : cd_S × cd_B) => t.2) q3).1 ∧ p.2.2.2 ≤ (Sum.elim (fun (p : Int32 × cd_S × cd_B) => p.2.2) (fun (t : cd_S × cd_B) => t.2) q3).2 := ⟨Nat.le_trans hq1 hm4, Nat.le_trans hq2 hn4⟩
          cases q3 with
          | inr t3 =>
            exact nomatch KR _ (Option.some.inj h).symm
          | inl p3 =>
            have hle3 := (kc_X4_part l D cA E sz ad _ hj oq sgq sgv hE n σ b  p3 e_q3).1
            have hM10004 : p.2.2.1 ≤ p3.2.2.1 ∧ p.2.2.2 ≤ p3.2.2.2 := hM4
            have h := cd_inl h
            refine hp_callVv (As := []) (rest := []) cx hw ((kc_X4_part l D cA E _ ad _ hj oq sgq sgv hE n σ b  p3 e_q3).2) (cwV 0 cx.2.2.2.2.2.1 (cd_giV cm_764 cm_765 cm_766 cm_663 cm_767) rfl rfl rfl hdc_X4_part ⟨by (try dsimp only); omega, by (try dsimp only); omega⟩) (cd_atO hj (by decide) (by decide)) rfl rfl hl.1 rfl (Nat.le_of_ble_eq_true rfl) dX4_readSum_59 ⟨by (try dsimp only); omega, by (try dsimp only); omega⟩ (fun u H locs hp hw => ?_)
            obtain ⟨ca, hj, rfl⟩ := hp
            refine W.widen (k := b0.1 - p3.2.2.1) (n := b0.2 - p3.2.2.2) (by omega) (by omega) ?_
            refine lv_aload_n cx.1 cx.2.1 dX4_readSum_62 rfl (lv_at hl 1 rfl) ?_
            refine cd_gO (o2 := 10) (e2 := 0) (o := 4) (k := 0) (f := 128) hj cx hw hic4 rfl ⟨by decide, rfl, by decide, rfl⟩ rfl (by decide) ⟨rfl, rfl⟩ (List.mem_cons_of_mem _ cm_658) dX4_readSum_63 ?_
            obtain ⟨p5, e_p5, h⟩ := md_ob h
            refine hp_callVv (As := []) (rest := []) cx hw (kc_X10_advance l D cA E _ ad _ hj oq sgq sgv hE n p3.2.1  p5 e_p5) (cwV 0 cx.2.2.2.2.2.1 (cd_giV cm_670 cm_671 cm_672 cm_301 cm_673) rfl rfl rfl hdc_X10_advance ⟨by (try dsimp only); omega, by (try dsimp only); omega⟩) (cd_atO hj (by decide) (by decide)) rfl rfl hl.1 rfl (Nat.le_of_ble_eq_true rfl) dX4_readSum_66 ⟨by (try dsimp only); omega, by (try dsimp only); omega⟩ (fun u H locs hp hw => ?_)
            obtain ⟨ca, hj, rfl⟩ := hp
            refine lv_aload_n cx.1 cx.2.1 dX4_readSum_69 rfl (lv_at hl 1 rfl) ?_
            refine lv_iload_n cx.1 cx.2.1 dX4_readSum_70 rfl (lv_at hl 2 rfl) ?_
            obtain ⟨q6, e_q6, h⟩ := md_ob h
            obtain ⟨hm7, hn7, h⟩ := cd_cks h
            have hM7 : p.2.2.1 ≤ (Sum.elim (fun (p : Int32 × cd_S × cd_B) => p.2.2) (fun (t : cd_S × cd_B) => t.2) q6).1 ∧ p.2.2.2 ≤ (Sum.elim (fun (p : Int32 × cd_S × cd_B) => p.2.2) (fun (t : cd_S × cd_B) => t.2) q6).2 := ⟨Nat.le_trans hq1 hm7, Nat.le_trans hq2 hn7⟩
            cases q6 with
            | inr t6 =>
              exact nomatch KR _ (Option.some.inj h).symm
            | inl p6 =>
              have hle6 := (in7 sz _ hj p5.2 (p3.2.2) l1 p6 e_q6).1
              have hM10007 : p.2.2.1 ≤ p6.2.2.1 ∧ p.2.2.2 ≤ p6.2.2.2 := hM7
              have h := cd_inl h
              refine hp_callVv (As := [.int l1]) (rest := []) cx hw ((in7 _ _ hj p5.2 (p3.2.2) l1 p6 e_q6).2) (cwV 1 cx.2.2.2.2.2.1 (cd_giV cm_914 cm_915 cm_916 cm_663 cm_917) rfl rfl rfl hdc_X4_readProduct ⟨by (try dsimp only); omega, by (try dsimp only); omega⟩) (cd_atO hj (by decide) (by decide)) rfl rfl hl.1 rfl (Nat.le_of_ble_eq_true rfl) dX4_readSum_71 ⟨by (try dsimp only); omega, by (try dsimp only); omega⟩ (fun u H locs hp hw => ?_)
              obtain ⟨ca, hj, rfl⟩ := hp
              refine W.widen (k := b0.1 - p6.2.2.1) (n := b0.2 - p6.2.2.2) (by omega) (by omega) ?_
              refine lv_aload_n cx.1 cx.2.1 dX4_readSum_74 rfl (lv_at hl 1 rfl) ?_
              obtain ⟨u8, e_u8, h⟩ := md_ob h
              have hb_u8 : u8 < 60 := (cd_dps e_u8).2
              refine cd_gP (o2 := 9) (u := u8) (o := 4) (k := 8) (f := 136) hj cx hw hic4 rfl ⟨by decide, rfl, by decide, rfl⟩ rfl (by decide) rfl e_u8 (List.mem_cons_of_mem _ cm_749) dX4_readSum_75 ?_
              refine lv_iload_n cx.1 cx.2.1 dX4_readSum_78 rfl (lv_at hl 0 rfl) ?_
              refine lv_iconst (v := 0) cx.1 cx.2.1 dX4_readSum_79 (by decide) ?_
              refine lv_iconst (v := 0) cx.1 cx.2.1 dX4_readSum_80 (by decide) ?_
              obtain ⟨p9, e_p9, h⟩ := md_ob h
              obtain ⟨hm10, hn10, h⟩ := cd_cks h
              have hM10 : p.2.2.1 ≤ p9.2.2.1 ∧ p.2.2.2 ≤ p9.2.2.2 := ⟨Nat.le_trans hq1 hm10, Nat.le_trans hq2 hn10⟩
              have hle9 := (kc_X9_emit l D cA E sz ad _ hj oq sgq sgv hE n p6.2.1 (p6.2.2) u8 t0 (0 : Int32) (0 : Int32) (show _ < 60 by omega) p9 e_p9).1
              refine hp_callVv (As := [.int t0, .int 0, .int 0]) (rest := []) cx hw ((kc_X9_emit l D cA E _ ad _ hj oq sgq sgv hE n p6.2.1 (p6.2.2) u8 t0 (0 : Int32) (0 : Int32) (show _ < 60 by omega) p9 e_p9).2) (cwV 3 cx.2.2.2.2.2.1 (cd_giV cm_781 cm_782 cm_783 cm_114 cm_784) rfl rfl rfl hdc_X9_emit ⟨by (try dsimp only); omega, by (try dsimp only); omega⟩) (cd_atO hj (by decide) (show _ < 60 by omega)) rfl rfl hl.1 rfl (Nat.le_of_ble_eq_true rfl) dX4_readSum_81 ⟨by (try dsimp only); omega, by (try dsimp only); omega⟩ (fun u H locs hp hw => ?_)
              obtain ⟨ca, hj, rfl⟩ := hp
              refine W.widen (k := b0.1 - p9.2.2.1) (n := b0.2 - p9.2.2.2) (by omega) (by omega) ?_
              refine lv_iinc (v := (l2 + 1)) (lv' := [(2, .int (l2 + 1)), (3, .int t0), (0, .ref (ad 4 0)), (1, .int l1)]) cx.1 cx.2.1 dX4_readSum_84 hl (k := 3) rfl rfl (by decide) rfl (fun ls hl => ?_)
              refine lv_goto (tgt := 7) cx.1 cx.2.1 dX4_readSum_87 (by decide) ?_
              exact ih _ hj p9.2.1 (p9.2.2) l1 ((l2 + 1)) q _ _ _ (by omega) (by omega) (by omega) (by omega) hq1 hq2 h hw (lv_sub hl [2, 3, 0] rfl) K KR
        have J38 : ∀ (ca : Nat → Nat) (hj : cd_inj ad ca) (σ : cd_S) (b : cd_B) (l2 : Int32) (H : Heap) (locs : List Loc) (ls : Array Slot), b.1 ≤ b0.1 → b.2 ≤ b0.2 → p.2.2.1 ≤ b.1 → p.2.2.2 ≤ b.2 → f_X4_readSum_J38 n rec l1 (f_X4_readSum_L7 n rec l1 j) σ b l2 = some q → hp_w D vwCl (hp_Tl cA) E (hp_A (cd_pic cA ad ca0 σ0) sz) ss H locs (cd_pic cA ad ca σ) → lv_has ls 4 [(0, .ref (ad 4 0)), (1, .int l1), (2, .int l2)] → W pp l ee ({ frames := (d + 1) + 16, cells := b0.1 - p.2.2.1, slots := b0.2 - p.2.2.2, locals := 26 * (d + 1) + 286 }) ss mm [.ref (ad 4 0), .int a1].toArray bb mt cd H locs (b0.1 - b.1) (b0.2 - b.2) (MQ bb (hp_Qv D vwCl (hp_Tl cA) sz (cd_pic cA ad ca0 σ0) (fun u => ∃ ca1, cd_inj ad ca1 ∧ u = cd_pic cA ad ca1 p.2.1)) [.ref (ad 4 0), .int a1].toArray ss (b0.1 - p.2.2.1) (b0.2 - p.2.2.2) (hp_A (cd_pic cA ad ca0 σ0) sz)) (F0 mm 38 ls []) := by
          intro ca hj σ b l2 H locs ls hb1 hb2 hf1 hf2 h hw hl
          refine lv_aload_n cx.1 cx.2.1 dX4_readSum_38 rfl (lv_at hl 0 rfl) ?_
          refine cd_gO (o2 := 10) (e2 := 0) (o := 4) (k := 0) (f := 128) hj cx hw hic4 rfl ⟨by decide, rfl, by decide, rfl⟩ rfl (by decide) ⟨rfl, rfl⟩ (List.mem_cons_of_mem _ cm_658) dX4_readSum_39 ?_
          refine cd_gI (o := 10) (k := 8) (f := 328) hj cx hw hic10 rfl ⟨by decide, rfl, by decide, rfl⟩ rfl (by decide) (List.mem_cons_of_mem _ cm_665) dX4_readSum_42 ?_
          refine lv_bipush (v := 43) cx.1 cx.2.1 dX4_readSum_45 (by decide) ?_
          refine lv_icmp_ne (tgt := 55) cx.1 cx.2.1 dX4_readSum_47 (by decide) (fun c47 => ?_) (fun c47 => ?_)
          · have h := md_in c47 h
            refine lv_bipush (v := 12) cx.1 cx.2.1 dX4_readSum_55 (by decide) ?_
            exact J57 _ hj σ b l2 12 _ _ _ (by omega) (by omega) (by omega) (by omega) h hw (lv_sub hl [0, 1, 2] rfl)
          · have h := md_ip c47 h
            refine lv_bipush (v := 11) cx.1 cx.2.1 dX4_readSum_50 (by decide) ?_
            refine lv_goto (tgt := 57) cx.1 cx.2.1 dX4_readSum_52 (by decide) ?_
            exact J57 _ hj σ b l2 11 _ _ _ (by omega) (by omega) (by omega) (by omega) h hw (lv_sub hl [0, 1, 2] rfl)
        refine lv_iload_n cx.1 cx.2.1 dX4_readSum_7 rfl (lv_at hl 2 rfl) ?_
        refine lv_sipush (v := 3000) cx.1 cx.2.1 dX4_readSum_8 (by decide) ?_
        refine lv_icmp_ge (tgt := 90) cx.1 cx.2.1 dX4_readSum_11 (by decide) (fun c11 => ?_) (fun c11 => ?_)
        · have h := md_ip c11 h
          exact K _ (Option.some.inj h).symm _ hj _ _ _ (by (try dsimp only); omega) (by (try dsimp only); omega) hw (lv_sub hl [] rfl)
        · have h := md_in c11 h
          refine lv_aload_n cx.1 cx.2.1 dX4_readSum_14 rfl (lv_at hl 0 rfl) ?_
          refine cd_gO (o2 := 10) (e2 := 0) (o := 4) (k := 0) (f := 128) hj cx hw hic4 rfl ⟨by decide, rfl, by decide, rfl⟩ rfl (by decide) ⟨rfl, rfl⟩ (List.mem_cons_of_mem _ cm_658) dX4_readSum_15 ?_
          refine cd_gI (o := 10) (k := 8) (f := 328) hj cx hw hic10 rfl ⟨by decide, rfl, by decide, rfl⟩ rfl (by decide) (List.mem_cons_of_mem _ cm_665) dX4_readSum_18 ?_
          refine lv_bipush (v := 43) cx.1 cx.2.1 dX4_readSum_21 (by decide) ?_
          refine lv_icmp_eq (tgt := 38) cx.1 cx.2.1 dX4_readSum_23 (by decide) (fun c23 => ?_) (fun c23 => ?_)
          · have h := md_ip c23 h
            exact J38 _ hj σ b l2 _ _ _ (by omega) (by omega) (by omega) (by omega) h hw (lv_sub hl [0, 1, 2] rfl)
          · have h := md_in c23 h
            refine lv_aload_n cx.1 cx.2.1 dX4_readSum_26 rfl (lv_at hl 0 rfl) ?_
            refine cd_gO (o2 := 10) (e2 := 0) (o := 4) (k := 0) (f := 128) hj cx hw hic4 rfl ⟨by decide, rfl, by decide, rfl⟩ rfl (by decide) ⟨rfl, rfl⟩ (List.mem_cons_of_mem _ cm_658) dX4_readSum_27 ?_
            refine cd_gI (o := 10) (k := 8) (f := 328) hj cx hw hic10 rfl ⟨by decide, rfl, by decide, rfl⟩ rfl (by decide) (List.mem_cons_of_mem _ cm_665) dX4_readSum_30 ?_
            refine lv_bipush (v := 45) cx.1 cx.2.1 dX4_readSum_33 (by decide) ?_
            refine lv_icmp_ne (tgt := 90) cx.1 cx.2.1 dX4_readSum_35 (by decide) (fun c35 => ?_) (fun c35 => ?_)
            · have h := md_in c35 h
              exact K _ (Option.some.inj h).symm _ hj _ _ _ (by (try dsimp only); omega) (by (try dsimp only); omega) hw (lv_sub hl [] rfl)
            · have h := md_ip c35 h
              exact J38 _ hj σ b l2 _ _ _ (by omega) (by omega) (by omega) (by omega) h hw (lv_sub hl [0, 1, 2] rfl)
    obtain ⟨q11, e_q11, h⟩ := md_ob h
    obtain ⟨hm12, hn12, h⟩ := cd_cks h
    have hM12 : p.2.2.1 ≤ (Sum.elim (fun (q : ((Int32 × cd_S × cd_B) ⊕ (cd_S × cd_B))) => Sum.elim (fun (p : (Int32 × cd_S × cd_B)) => p.2.2) (fun (t : cd_S × cd_B) => t.2) q) (fun (q : cd_S × cd_B × Int32) => q.2.1) q11).1 ∧ p.2.2.2 ≤ (Sum.elim (fun (q : ((Int32 × cd_S × cd_B) ⊕ (cd_S × cd_B))) => Sum.elim (fun (p : (Int32 × cd_S × cd_B)) => p.2.2) (fun (t : cd_S × cd_B) => t.2) q) (fun (q : cd_S × cd_B × Int32) => q.2.1) q11).2 := ⟨hm12, hn12⟩
    refine L7 n _ hj p1.2.1 (p1.2.2) a1 0 q11 _ _ _ (by omega) (by omega) (by omega) (by omega) hM12.1 hM12.2 e_q11 hw (lv_sub hl [1, 2, 0] rfl) (fun t11 hq11 ca hj H locs ls hb1 hb2 hw hl => ?_) (fun r hr => by subst hr; exact Option.some.inj h)
    subst hq11
    have h := md_inr h
    have hS12 : p.2.2.1 ≤ t11.2.1.1 ∧ p.2.2.2 ≤ t11.2.1.2 := hM12
    exact hp_vret cx hw ((cd_retb hj (congrArg some (Sum.inl.inj (Option.some.inj h)))).2) dX4_readSum_90 (cd_le1 (congrArg some (Sum.inl.inj (Option.some.inj h)))) (cd_le2 (congrArg some (Sum.inl.inj (Option.some.inj h))))
