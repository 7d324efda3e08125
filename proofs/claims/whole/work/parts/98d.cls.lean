set_option maxHeartbeats 4000000 in
set_option maxRecDepth 100000 in
theorem kc_X3_anyHas (l : Launch) (D : va_G) (cA : Nat → ClassId) (E : hp_N) (sz : Nat) (ad : Nat → Nat → Nat) (ca0 : Nat → Nat) (hj : cd_inj ad ca0) (oq sgq sgv : Nat) (hE : cd_E E oq sgq sgv) (n : Nat) (σ0 : cd_S) (a1 : Int32) (a2 : Int32) (a3 : Nat) (hb_a3 : a3 < 196) (p : (Int32 × cd_S)) (h : f_X3_anyHas n σ0 a1 a2 a3 = some p) : Met l yX3_anyHas (Cond.code yX3_anyHas cX3_anyHas 6 (some .boolean) :: v_CLS) ({ frames := 1, cells := 0, slots := 0, locals := 24 }) (hp_Pc D vwCl (hp_Tl cA) E sz (cd_pic cA ad ca0 σ0) [.ref (ad 3 0), .int a1, .int a2, .ref (ad 5 a3)]) (hp_Qi D vwCl (hp_Tl cA) sz (cd_pic cA ad ca0 σ0) (fun r u => r = p.1 ∧ ∃ ca1, cd_inj ad ca1 ∧ u = cd_pic cA ad ca1 p.2)) 0 0 (hp_A (cd_pic cA ad ca0 σ0) sz) := by
  refine hp_ofW (cc := cX3_anyHas) (maxL := 6) (ret := (some .boolean)) (by decide) rfl (Nat.le_of_ble_eq_true rfl) ?_
  intro pp ee ss mm bb mt cd ls cx hsz hw hl
  have hl : lv_has ls 6 [(0, .ref (ad 3 0)), (1, .int a1), (2, .int a2), (3, .ref (ad 5 a3))] := hl
  refine lv_iconst (v := 0) cx.1 cx.2.1 dX3_anyHas_0 (by decide) ?_
  refine lv_istore (lv' := [(4, .int 0), (0, .ref (ad 3 0)), (1, .int a1), (2, .int a2), (3, .ref (ad 5 a3))]) cx.1 cx.2.1 dX3_anyHas_1 hl (by decide) rfl (fun ls hl => ?_)
  refine lv_iload_n cx.1 cx.2.1 dX3_anyHas_3 rfl (lv_at hl 2 rfl) ?_
  refine lv_istore (lv' := [(5, .int a1), (4, .int 0), (0, .ref (ad 3 0)), (1, .int a1), (2, .int a2), (3, .ref (ad 5 a3))]) cx.1 cx.2.1 dX3_anyHas_4 hl (by decide) rfl (fun ls hl => ?_)
  have L6 : ∀ (j : Nat) (ca : Nat → Nat) (hj : cd_inj ad ca) (σ : cd_S) (l1 : Int32) (l2 : Int32) (l4 : Int32) (l5 : Int32) (q : (cd_S × Int32 × Int32)) (H : Heap) (locs : List Loc) (ls : Array Slot), f_X3_anyHas_L6 n a3 l1 l2 j σ l4 l5 = some q → hp_w D vwCl (hp_Tl cA) E (hp_A (cd_pic cA ad ca0 σ0) sz) ss H locs (cd_pic cA ad ca σ) → lv_has ls 6 [(0, .ref (ad 3 0)), (1, .int l1), (2, .int l2), (3, .ref (ad 5 a3)), (4, .int l4), (5, .int l5)] → (∀ (ca : Nat → Nat) (hj : cd_inj ad ca) (H : Heap) (locs : List Loc) (ls : Array Slot), hp_w D vwCl (hp_Tl cA) E (hp_A (cd_pic cA ad ca0 σ0) sz) ss H locs (cd_pic cA ad ca q.1) → lv_has ls 6 [(4, .int q.2.1)] → W pp l ee ({ frames := 1, cells := 0, slots := 0, locals := 24 }) ss mm [.ref (ad 3 0), .int a1, .int a2, .ref (ad 5 a3)].toArray bb mt cd H locs 0 0 (MQ bb (hp_Qi D vwCl (hp_Tl cA) sz (cd_pic cA ad ca0 σ0) (fun r u => r = p.1 ∧ ∃ ca1, cd_inj ad ca1 ∧ u = cd_pic cA ad ca1 p.2)) [.ref (ad 3 0), .int a1, .int a2, .ref (ad 5 a3)].toArray ss 0 0 (hp_A (cd_pic cA ad ca0 σ0) sz)) (F0 mm 72 ls [])) → W pp l ee ({ frames := 1, cells := 0, slots := 0, locals := 24 }) ss mm [.ref (ad 3 0), .int a1, .int a2, .ref (ad 5 a3)].toArray bb mt cd H locs 0 0 (MQ bb (hp_Qi D vwCl (hp_Tl cA) sz (cd_pic cA ad ca0 σ0) (fun r u => r = p.1 ∧ ∃ ca1, cd_inj ad ca1 ∧ u = cd_pic cA ad ca1 p.2)) [.ref (ad 3 0), .int a1, .int a2, .ref (ad 5 a3)].toArray ss 0 0 (hp_A (cd_pic cA ad ca0 σ0) sz)) (F0 mm 6 ls []) := by
    intro j
    induction j with
    | zero => intro ca hj σ l1 l2 l4 l5 q H locs ls h; exact nomatch h
    | succ j ih =>
      intro ca hj σ l1 l2 l4 l5 q H locs ls h hw hl K
      unfold f_X3_anyHas_L6 at h
      have J64 : ∀ (ca : Nat → Nat) (hj : cd_inj ad ca) (σ : cd_S) (l5 : Int32) (t0 : Int32) (H : Heap) (locs : List Loc) (ls : Array Slot), f_X3_anyHas_J64 n a3 l1 l2 (f_X3_anyHas_L6 n a3 l1 l2 j) σ l5 t0 = some q → hp_w D vwCl (hp_Tl cA) E (hp_A (cd_pic cA ad ca0 σ0) sz) ss H locs (cd_pic cA ad ca σ) → lv_has ls 6 [(0, .ref (ad 3 0)), (1, .int l1), (2, .int l2), (3, .ref (ad 5 a3)), (5, .int l5)] → W pp l ee ({ frames := 1, cells := 0, slots := 0, locals := 24 }) ss mm [.ref (ad 3 0), .int a1, .int a2, .ref (ad 5 a3)].toArray bb mt cd H locs 0 0 (MQ bb (hp_Qi D vwCl (hp_Tl cA) sz (cd_pic cA ad ca0 σ0) (fun r u => r = p.1 ∧ ∃ ca1, cd_inj ad ca1 ∧ u = cd_pic cA ad ca1 p.2)) [.ref (ad 3 0), .int a1, .int a2, .ref (ad 5 a3)].toArray ss 0 0 (hp_A (cd_pic cA ad ca0 σ0) sz)) (F0 mm 64 ls [.int t0]) := by
        intro ca hj σ l5 t0 H locs ls h hw hl
        refine lv_istore (lv' := [(4, .int t0), (0, .ref (ad 3 0)), (1, .int l1), (2, .int l2), (3, .ref (ad 5 a3)), (5, .int l5)]) cx.1 cx.2.1 dX3_anyHas_64 hl (by decide) rfl (fun ls hl => ?_)
        refine lv_iinc (v := (l5 + 1)) (lv' := [(5, .int (l5 + 1)), (4, .int t0), (0, .ref (ad 3 0)), (1, .int l1), (2, .int l2), (3, .ref (ad 5 a3))]) cx.1 cx.2.1 dX3_anyHas_66 hl (k := 5) rfl rfl (by decide) rfl (fun ls hl => ?_)
        refine lv_goto (tgt := 6) cx.1 cx.2.1 dX3_anyHas_69 (by decide) ?_
        exact ih _ hj σ l1 l2 t0 ((l5 + 1)) q _ _ _ h hw (lv_sub hl [2, 3, 4, 5, 1, 0] rfl) K
      have J63 : ∀ (ca : Nat → Nat) (hj : cd_inj ad ca) (σ : cd_S) (l5 : Int32) (H : Heap) (locs : List Loc) (ls : Array Slot), f_X3_anyHas_J63 n a3 l1 l2 (f_X3_anyHas_L6 n a3 l1 l2 j) σ l5 = some q → hp_w D vwCl (hp_Tl cA) E (hp_A (cd_pic cA ad ca0 σ0) sz) ss H locs (cd_pic cA ad ca σ) → lv_has ls 6 [(0, .ref (ad 3 0)), (1, .int l1), (2, .int l2), (3, .ref (ad 5 a3)), (5, .int l5)] → W pp l ee ({ frames := 1, cells := 0, slots := 0, locals := 24 }) ss mm [.ref (ad 3 0), .int a1, .int a2, .ref (ad 5 a3)].toArray bb mt cd H locs 0 0 (MQ bb (hp_Qi D vwCl (hp_Tl cA) sz (cd_pic cA ad ca0 σ0) (fun r u => r = p.1 ∧ ∃ ca1, cd_inj ad ca1 ∧ u = cd_pic cA ad ca1 p.2)) [.ref (ad 3 0), .int a1, .int a2, .ref (ad 5 a3)].toArray ss 0 0 (hp_A (cd_pic cA ad ca0 σ0) sz)) (F0 mm 63 ls []) := by
        intro ca hj σ l5 H locs ls h hw hl
        refine lv_iconst (v := 0) cx.1 cx.2.1 dX3_anyHas_63 (by decide) ?_
        exact J64 _ hj σ l5 0 _ _ _ h hw (lv_sub hl [0, 1, 2, 3, 4] rfl)
      refine lv_iload cx.1 cx.2.1 dX3_anyHas_6 (lv_at hl 4 rfl) ?_
      refine lv_if_ne (tgt := 72) cx.1 cx.2.1 dX3_anyHas_8 (by decide) (fun c8 => ?_) (fun c8 => ?_)
      · have h := md_in c8 h
        obtain rfl := Option.some.inj h
        exact K _ hj _ _ _ hw (lv_sub hl [4] rfl)
      · have h := md_ip c8 h
        refine lv_iload cx.1 cx.2.1 dX3_anyHas_11 (lv_at hl 5 rfl) ?_
        refine lv_iload_n cx.1 cx.2.1 dX3_anyHas_13 rfl (lv_at hl 1 rfl) ?_
        refine lv_iload_n cx.1 cx.2.1 dX3_anyHas_14 rfl (lv_at hl 2 rfl) ?_
        refine lv_iadd cx.1 cx.2.1 dX3_anyHas_15 ?_
        refine lv_icmp_ge (tgt := 72) cx.1 cx.2.1 dX3_anyHas_16 (by decide) (fun c16 => ?_) (fun c16 => ?_)
        · have h := md_ip c16 h
          obtain rfl := Option.some.inj h
          exact K _ hj _ _ _ hw (lv_sub hl [4] rfl)
        · have h := md_in c16 h
          refine lv_iload cx.1 cx.2.1 dX3_anyHas_19 (lv_at hl 5 rfl) ?_
          refine lv_sipush (v := 160) cx.1 cx.2.1 dX3_anyHas_21 (by decide) ?_
          refine lv_icmp_ge (tgt := 72) cx.1 cx.2.1 dX3_anyHas_24 (by decide) (fun c24 => ?_) (fun c24 => ?_)
          · have h := md_ip c24 h
            obtain rfl := Option.some.inj h
            exact K _ hj _ _ _ hw (lv_sub hl [4] rfl)
          · have h := md_in c24 h
            refine lv_aload_n cx.1 cx.2.1 dX3_anyHas_27 rfl (lv_at hl 0 rfl) ?_
            refine cd_gA (o := 3) (k := 1) (f := 97) hj cx hw hic3 rfl ⟨by decide, rfl, by decide, rfl⟩ rfl (by decide) (List.mem_cons_of_mem _ cm_321) dX3_anyHas_28 ?_
            refine lv_iload cx.1 cx.2.1 dX3_anyHas_31 (lv_at hl 5 rfl) ?_
            obtain ⟨u1, e_u1, h⟩ := md_ob h
            have hb_u1 : u1 < 168 := (cd_ldRs e_u1).2.2
            refine cd_lR (f := 97) (o2 := 5) hj cx hw (by decide) (by decide) rfl (by decide) rfl rfl e_u1 dX3_anyHas_33 ?_
            refine cd_gJ (o := 5) (k := 0) (f := 160) hj cx hw hic5 rfl ⟨by decide, rfl, by decide, rfl⟩ rfl (show _ < 196 by omega) (List.mem_cons_of_mem _ cm_322) dX3_anyHas_34 ?_
            refine lv_aload_n cx.1 cx.2.1 dX3_anyHas_37 rfl (lv_at hl 3 rfl) ?_
            refine cd_gJ (o := 5) (k := 0) (f := 160) hj cx hw hic5 rfl ⟨by decide, rfl, by decide, rfl⟩ rfl (show _ < 196 by omega) (List.mem_cons_of_mem _ cm_322) dX3_anyHas_38 ?_
            refine W.lcmp cx.1 cx.2.1 dX3_anyHas_41 ?_
            refine lv_if_ne (tgt := 63) cx.1 cx.2.1 dX3_anyHas_42 (by decide) (fun c42 => ?_) (fun c42 => ?_)
            · have h := md_in c42 h
              exact J63 _ hj σ l5 _ _ _ h hw (lv_sub hl [0, 1, 2, 3, 5] rfl)
            · have h := md_ip c42 h
              refine lv_aload_n cx.1 cx.2.1 dX3_anyHas_45 rfl (lv_at hl 0 rfl) ?_
              refine cd_gA (o := 3) (k := 1) (f := 97) hj cx hw hic3 rfl ⟨by decide, rfl, by decide, rfl⟩ rfl (by decide) (List.mem_cons_of_mem _ cm_321) dX3_anyHas_46 ?_
              refine lv_iload cx.1 cx.2.1 dX3_anyHas_49 (lv_at hl 5 rfl) ?_
              obtain ⟨u2, e_u2, h⟩ := md_ob h
              have hb_u2 : u2 < 168 := (cd_ldRs e_u2).2.2
              refine cd_lR (f := 97) (o2 := 5) hj cx hw (by decide) (by decide) rfl (by decide) rfl rfl e_u2 dX3_anyHas_51 ?_
              refine lv_aload_n cx.1 cx.2.1 dX3_anyHas_52 rfl (lv_at hl 3 rfl) ?_
              obtain ⟨p3, e_p3, h⟩ := md_ob h
              refine hp_callVi (As := [.ref (ad 5 a3)]) (rest := []) cx hw (kc_X5_covers l D cA E _ ad _ hj oq sgq sgv hE n σ u2 a3 (show _ < 196 by omega) (show _ < 196 by omega) p3 e_p3) (cwV 1 cx.2.2.2.2.2.1 (cd_giV cm_323 cm_324 cm_325 cm_306 cm_326) rfl rfl rfl hdc_X5_covers ⟨Nat.le_of_ble_eq_true rfl, Nat.le_of_ble_eq_true rfl⟩) (cd_atO hj (by decide) (show _ < 196 by omega)) rfl rfl hl.1 rfl (Nat.le_of_ble_eq_true rfl) dX3_anyHas_53 ⟨Nat.le_refl _, Nat.le_refl _⟩ (fun r u H locs hp hw => ?_)
              obtain ⟨rfl, ca, hj, rfl⟩ := hp
              refine lv_if_eq (tgt := 63) cx.1 cx.2.1 dX3_anyHas_56 (by decide) (fun c56 => ?_) (fun c56 => ?_)
              · have h := md_ip c56 h
                exact J63 _ hj p3.2 l5 _ _ _ h hw (lv_sub hl [0, 1, 2, 3, 5] rfl)
              · have h := md_in c56 h
                refine lv_iconst (v := 1) cx.1 cx.2.1 dX3_anyHas_59 (by decide) ?_
                refine lv_goto (tgt := 64) cx.1 cx.2.1 dX3_anyHas_60 (by decide) ?_
                exact J64 _ hj p3.2 l5 1 _ _ _ h hw (lv_sub hl [0, 1, 2, 3, 5] rfl)
  obtain ⟨q4, e_q4, h⟩ := md_ob h
  refine L6 n _ hj σ0 a1 a2 0 a1 q4 _ _ _ e_q4 hw (lv_sub hl [2, 3, 4, 5, 1, 0] rfl) (fun ca hj H locs ls hw hl => ?_)
  refine lv_iload cx.1 cx.2.1 dX3_anyHas_72 (lv_at hl 0 rfl) ?_
  obtain ⟨z5, e_z5, h⟩ := md_ob h
  rw [(md_zbs e_z5).1] at h
  exact hp_zret cx hw (cd_ret hj h) (md_nbn (md_zbs e_z5).2) dX3_anyHas_74
set_option maxHeartbeats 4000000 in
set_option maxRecDepth 100000 in
theorem kc_X3_holders (l : Launch) (D : va_G) (cA : Nat → ClassId) (E : hp_N) (sz : Nat) (ad : Nat → Nat → Nat) (ca0 : Nat → Nat) (hj : cd_inj ad ca0) (oq sgq sgv : Nat) (hE : cd_E E oq sgq sgv) (n : Nat) (σ0 : cd_S) (a1 : Nat) (hb_a1 : a1 < 196) (p : (Int32 × cd_S)) (h : f_X3_holders n σ0 a1 = some p) : Met l yX3_holders (Cond.code yX3_holders cX3_holders 5 (some .int) :: v_CLS) ({ frames := 2, cells := 0, slots := 0, locals := 49 }) (hp_Pc D vwCl (hp_Tl cA) E sz (cd_pic cA ad ca0 σ0) [.ref (ad 3 0), .ref (ad 5 a1)]) (hp_Qi D vwCl (hp_Tl cA) sz (cd_pic cA ad ca0 σ0) (fun r u => r = p.1 ∧ ∃ ca1, cd_inj ad ca1 ∧ u = cd_pic cA ad ca1 p.2)) 0 0 (hp_A (cd_pic cA ad ca0 σ0) sz) := by
  refine hp_ofW (cc := cX3_holders) (maxL := 5) (ret := (some .int)) (by decide) rfl (Nat.le_of_ble_eq_true rfl) ?_
  intro pp ee ss mm bb mt cd ls cx hsz hw hl
  have hl : lv_has ls 5 [(0, .ref (ad 3 0)), (1, .ref (ad 5 a1))] := hl
  refine lv_iconst (v := 0) cx.1 cx.2.1 dX3_holders_0 (by decide) ?_
  refine lv_istore_n (lv' := [(2, .int 0), (0, .ref (ad 3 0)), (1, .ref (ad 5 a1))]) cx.1 cx.2.1 dX3_holders_1 rfl hl (by decide) rfl (fun ls hl => ?_)
  refine lv_iconst (v := 0) cx.1 cx.2.1 dX3_holders_2 (by decide) ?_
  refine lv_istore_n (lv' := [(3, .int 0), (2, .int 0), (0, .ref (ad 3 0)), (1, .ref (ad 5 a1))]) cx.1 cx.2.1 dX3_holders_3 rfl hl (by decide) rfl (fun ls hl => ?_)
  have L4 : ∀ (j : Nat) (ca : Nat → Nat) (hj : cd_inj ad ca) (σ : cd_S) (l2 : Int32) (l3 : Int32) (q : (cd_S × Int32 × Int32)) (H : Heap) (locs : List Loc) (ls : Array Slot), f_X3_holders_L4 n a1 j σ l2 l3 = some q → hp_w D vwCl (hp_Tl cA) E (hp_A (cd_pic cA ad ca0 σ0) sz) ss H locs (cd_pic cA ad ca σ) → lv_has ls 5 [(0, .ref (ad 3 0)), (1, .ref (ad 5 a1)), (2, .int l2), (3, .int l3)] → (∀ (ca : Nat → Nat) (hj : cd_inj ad ca) (H : Heap) (locs : List Loc) (ls : Array Slot), hp_w D vwCl (hp_Tl cA) E (hp_A (cd_pic cA ad ca0 σ0) sz) ss H locs (cd_pic cA ad ca q.1) → lv_has ls 5 [(0, .ref (ad 3 0)), (1, .ref (ad 5 a1)), (2, .int q.2.1)] → W pp l ee ({ frames := 2, cells := 0, slots := 0, locals := 49 }) ss mm [.ref (ad 3 0), .ref (ad 5 a1)].toArray bb mt cd H locs 0 0 (MQ bb (hp_Qi D vwCl (hp_Tl cA) sz (cd_pic cA ad ca0 σ0) (fun r u => r = p.1 ∧ ∃ ca1, cd_inj ad ca1 ∧ u = cd_pic cA ad ca1 p.2)) [.ref (ad 3 0), .ref (ad 5 a1)].toArray ss 0 0 (hp_A (cd_pic cA ad ca0 σ0) sz)) (F0 mm 46 ls [])) → W pp l ee ({ frames := 2, cells := 0, slots := 0, locals := 49 }) ss mm [.ref (ad 3 0), .ref (ad 5 a1)].toArray bb mt cd H locs 0 0 (MQ bb (hp_Qi D vwCl (hp_Tl cA) sz (cd_pic cA ad ca0 σ0) (fun r u => r = p.1 ∧ ∃ ca1, cd_inj ad ca1 ∧ u = cd_pic cA ad ca1 p.2)) [.ref (ad 3 0), .ref (ad 5 a1)].toArray ss 0 0 (hp_A (cd_pic cA ad ca0 σ0) sz)) (F0 mm 4 ls []) := by
    intro j
    induction j with
    | zero => intro ca hj σ l2 l3 q H locs ls h; exact nomatch h
    | succ j ih =>
      intro ca hj σ l2 l3 q H locs ls h hw hl K
      unfold f_X3_holders_L4 at h
      have J38 : ∀ (ca : Nat → Nat) (hj : cd_inj ad ca) (σ : cd_S) (l3 : Int32) (t0 : Int32) (t1 : Int32) (H : Heap) (locs : List Loc) (ls : Array Slot), f_X3_holders_J38 n a1 (f_X3_holders_L4 n a1 j) σ l3 t0 t1 = some q → hp_w D vwCl (hp_Tl cA) E (hp_A (cd_pic cA ad ca0 σ0) sz) ss H locs (cd_pic cA ad ca σ) → lv_has ls 5 [(0, .ref (ad 3 0)), (1, .ref (ad 5 a1)), (3, .int l3)] → W pp l ee ({ frames := 2, cells := 0, slots := 0, locals := 49 }) ss mm [.ref (ad 3 0), .ref (ad 5 a1)].toArray bb mt cd H locs 0 0 (MQ bb (hp_Qi D vwCl (hp_Tl cA) sz (cd_pic cA ad ca0 σ0) (fun r u => r = p.1 ∧ ∃ ca1, cd_inj ad ca1 ∧ u = cd_pic cA ad ca1 p.2)) [.ref (ad 3 0), .ref (ad 5 a1)].toArray ss 0 0 (hp_A (cd_pic cA ad ca0 σ0) sz)) (F0 mm 38 ls [.int t0, .int t1]) := by
        intro ca hj σ l3 t0 t1 H locs ls h hw hl
        refine lv_ior cx.1 cx.2.1 dX3_holders_38 ?_
        refine lv_istore_n (lv' := [(2, .int (t1 ||| t0)), (0, .ref (ad 3 0)), (1, .ref (ad 5 a1)), (3, .int l3)]) cx.1 cx.2.1 dX3_holders_39 rfl hl (by decide) rfl (fun ls hl => ?_)
        refine lv_iinc (v := (l3 + 1)) (lv' := [(3, .int (l3 + 1)), (2, .int (t1 ||| t0)), (0, .ref (ad 3 0)), (1, .ref (ad 5 a1))]) cx.1 cx.2.1 dX3_holders_40 hl (k := 3) rfl rfl (by decide) rfl (fun ls hl => ?_)
        refine lv_goto (tgt := 4) cx.1 cx.2.1 dX3_holders_43 (by decide) ?_
        exact ih _ hj σ ((t1 ||| t0)) ((l3 + 1)) q _ _ _ h hw (lv_sub hl [2, 3, 1, 0] rfl) K
      refine lv_iload_n cx.1 cx.2.1 dX3_holders_4 rfl (lv_at hl 3 rfl) ?_
      refine lv_aload_n cx.1 cx.2.1 dX3_holders_5 rfl (lv_at hl 0 rfl) ?_
      refine cd_gI (o := 3) (k := 10) (f := 106) hj cx hw hic3 rfl ⟨by decide, rfl, by decide, rfl⟩ rfl (by decide) (List.mem_cons_of_mem _ cm_327) dX3_holders_6 ?_
      refine lv_icmp_ge (tgt := 46) cx.1 cx.2.1 dX3_holders_9 (by decide) (fun c9 => ?_) (fun c9 => ?_)
      · have h := md_ip c9 h
        obtain rfl := Option.some.inj h
        exact K _ hj _ _ _ hw (lv_sub hl [0, 1, 2] rfl)
      · have h := md_in c9 h
        refine lv_iload_n cx.1 cx.2.1 dX3_holders_12 rfl (lv_at hl 2 rfl) ?_
        refine lv_aload_n cx.1 cx.2.1 dX3_holders_13 rfl (lv_at hl 0 rfl) ?_
        refine lv_iload_n cx.1 cx.2.1 dX3_holders_14 rfl (lv_at hl 3 rfl) ?_
        refine lv_bipush (v := 8) cx.1 cx.2.1 dX3_holders_15 (by decide) ?_
        refine lv_imul cx.1 cx.2.1 dX3_holders_17 ?_
        refine lv_aload_n cx.1 cx.2.1 dX3_holders_18 rfl (lv_at hl 0 rfl) ?_
        refine cd_gA (o := 3) (k := 2) (f := 98) hj cx hw hic3 rfl ⟨by decide, rfl, by decide, rfl⟩ rfl (by decide) (List.mem_cons_of_mem _ cm_328) dX3_holders_19 ?_
        refine lv_iload_n cx.1 cx.2.1 dX3_holders_22 rfl (lv_at hl 3 rfl) ?_
        obtain ⟨v1, e_v1, h⟩ := md_ob h
        refine cd_lI (f := 98) hj cx hw (by decide) (by decide) rfl e_v1 dX3_holders_23 ?_
        refine lv_aload_n cx.1 cx.2.1 dX3_holders_24 rfl (lv_at hl 1 rfl) ?_
        obtain ⟨p2, e_p2, h⟩ := md_ob h
        refine hp_callVi (As := [.int (l3 * 8), .int v1, .ref (ad 5 a1)]) (rest := [.int l2]) cx hw (kc_X3_anyHas l D cA E _ ad _ hj oq sgq sgv hE n σ ((l3 * 8)) v1 a1 (show _ < 196 by omega) p2 e_p2) (cwV 3 cx.2.2.2.2.2.1 (cd_giV cm_329 cm_330 cm_331 cm_332 cm_333) rfl rfl rfl hdc_X3_anyHas ⟨Nat.le_of_ble_eq_true rfl, Nat.le_of_ble_eq_true rfl⟩) (cd_atO hj (by decide) (by decide)) rfl rfl hl.1 rfl (Nat.le_of_ble_eq_true rfl) dX3_holders_25 ⟨Nat.le_refl _, Nat.le_refl _⟩ (fun r u H locs hp hw => ?_)
        obtain ⟨rfl, ca, hj, rfl⟩ := hp
        refine lv_if_eq (tgt := 37) cx.1 cx.2.1 dX3_holders_28 (by decide) (fun c28 => ?_) (fun c28 => ?_)
        · have h := md_ip c28 h
          refine lv_iconst (v := 0) cx.1 cx.2.1 dX3_holders_37 (by decide) ?_
          exact J38 _ hj p2.2 l3 0 l2 _ _ _ h hw (lv_sub hl [0, 1, 3] rfl)
        · have h := md_in c28 h
          refine lv_iconst (v := 1) cx.1 cx.2.1 dX3_holders_31 (by decide) ?_
          refine lv_iload_n cx.1 cx.2.1 dX3_holders_32 rfl (lv_at hl 3 rfl) ?_
          refine lv_ishl cx.1 cx.2.1 dX3_holders_33 ?_
          refine lv_goto (tgt := 38) cx.1 cx.2.1 dX3_holders_34 (by decide) ?_
          exact J38 _ hj p2.2 l3 (((1 : Int32) <<< (l3 &&& 31))) l2 _ _ _ h hw (lv_sub hl [0, 1, 3] rfl)
  obtain ⟨q3, e_q3, h⟩ := md_ob h
  refine L4 n _ hj σ0 0 0 q3 _ _ _ e_q3 hw (lv_sub hl [2, 3, 1, 0] rfl) (fun ca hj H locs ls hw hl => ?_)
  refine lv_iconst (v := 0) cx.1 cx.2.1 dX3_holders_46 (by decide) ?_
  refine lv_istore_n (lv' := [(3, .int 0), (0, .ref (ad 3 0)), (1, .ref (ad 5 a1)), (2, .int q3.2.1)]) cx.1 cx.2.1 dX3_holders_47 rfl hl (by decide) rfl (fun ls hl => ?_)
  refine lv_iconst (v := 0) cx.1 cx.2.1 dX3_holders_48 (by decide) ?_
  refine lv_istore (lv' := [(4, .int 0), (3, .int 0), (0, .ref (ad 3 0)), (1, .ref (ad 5 a1)), (2, .int q3.2.1)]) cx.1 cx.2.1 dX3_holders_49 hl (by decide) rfl (fun ls hl => ?_)
  have L51 : ∀ (j : Nat) (ca : Nat → Nat) (hj : cd_inj ad ca) (σ : cd_S) (l2 : Int32) (l3 : Int32) (l4 : Int32) (q : (cd_S × Int32 × Int32)) (H : Heap) (locs : List Loc) (ls : Array Slot), f_X3_holders_L51 n a1 l2 j σ l3 l4 = some q → hp_w D vwCl (hp_Tl cA) E (hp_A (cd_pic cA ad ca0 σ0) sz) ss H locs (cd_pic cA ad ca σ) → lv_has ls 5 [(0, .ref (ad 3 0)), (1, .ref (ad 5 a1)), (2, .int l2), (3, .int l3), (4, .int l4)] → (∀ (ca : Nat → Nat) (hj : cd_inj ad ca) (H : Heap) (locs : List Loc) (ls : Array Slot), hp_w D vwCl (hp_Tl cA) E (hp_A (cd_pic cA ad ca0 σ0) sz) ss H locs (cd_pic cA ad ca q.1) → lv_has ls 5 [(0, .ref (ad 3 0)), (1, .ref (ad 5 a1)), (3, .int q.2.1)] → W pp l ee ({ frames := 2, cells := 0, slots := 0, locals := 49 }) ss mm [.ref (ad 3 0), .ref (ad 5 a1)].toArray bb mt cd H locs 0 0 (MQ bb (hp_Qi D vwCl (hp_Tl cA) sz (cd_pic cA ad ca0 σ0) (fun r u => r = p.1 ∧ ∃ ca1, cd_inj ad ca1 ∧ u = cd_pic cA ad ca1 p.2)) [.ref (ad 3 0), .ref (ad 5 a1)].toArray ss 0 0 (hp_A (cd_pic cA ad ca0 σ0) sz)) (F0 mm 89 ls [])) → W pp l ee ({ frames := 2, cells := 0, slots := 0, locals := 49 }) ss mm [.ref (ad 3 0), .ref (ad 5 a1)].toArray bb mt cd H locs 0 0 (MQ bb (hp_Qi D vwCl (hp_Tl cA) sz (cd_pic cA ad ca0 σ0) (fun r u => r = p.1 ∧ ∃ ca1, cd_inj ad ca1 ∧ u = cd_pic cA ad ca1 p.2)) [.ref (ad 3 0), .ref (ad 5 a1)].toArray ss 0 0 (hp_A (cd_pic cA ad ca0 σ0) sz)) (F0 mm 51 ls []) := by
    intro j
    induction j with
    | zero => intro ca hj σ l2 l3 l4 q H locs ls h; exact nomatch h
    | succ j ih =>
      intro ca hj σ l2 l3 l4 q H locs ls h hw hl K
      unfold f_X3_holders_L51 at h
      have J81 : ∀ (ca : Nat → Nat) (hj : cd_inj ad ca) (σ : cd_S) (l4 : Int32) (t0 : Int32) (t1 : Int32) (H : Heap) (locs : List Loc) (ls : Array Slot), f_X3_holders_J81 n a1 l2 (f_X3_holders_L51 n a1 l2 j) σ l4 t0 t1 = some q → hp_w D vwCl (hp_Tl cA) E (hp_A (cd_pic cA ad ca0 σ0) sz) ss H locs (cd_pic cA ad ca σ) → lv_has ls 5 [(0, .ref (ad 3 0)), (1, .ref (ad 5 a1)), (2, .int l2), (4, .int l4)] → W pp l ee ({ frames := 2, cells := 0, slots := 0, locals := 49 }) ss mm [.ref (ad 3 0), .ref (ad 5 a1)].toArray bb mt cd H locs 0 0 (MQ bb (hp_Qi D vwCl (hp_Tl cA) sz (cd_pic cA ad ca0 σ0) (fun r u => r = p.1 ∧ ∃ ca1, cd_inj ad ca1 ∧ u = cd_pic cA ad ca1 p.2)) [.ref (ad 3 0), .ref (ad 5 a1)].toArray ss 0 0 (hp_A (cd_pic cA ad ca0 σ0) sz)) (F0 mm 81 ls [.int t0, .int t1]) := by
        intro ca hj σ l4 t0 t1 H locs ls h hw hl
        refine lv_ior cx.1 cx.2.1 dX3_holders_81 ?_
        refine lv_istore_n (lv' := [(3, .int (t1 ||| t0)), (0, .ref (ad 3 0)), (1, .ref (ad 5 a1)), (2, .int l2), (4, .int l4)]) cx.1 cx.2.1 dX3_holders_82 rfl hl (by decide) rfl (fun ls hl => ?_)
        refine lv_iinc (v := (l4 + 1)) (lv' := [(4, .int (l4 + 1)), (3, .int (t1 ||| t0)), (0, .ref (ad 3 0)), (1, .ref (ad 5 a1)), (2, .int l2)]) cx.1 cx.2.1 dX3_holders_83 hl (k := 4) rfl rfl (by decide) rfl (fun ls hl => ?_)
        refine lv_goto (tgt := 51) cx.1 cx.2.1 dX3_holders_86 (by decide) ?_
        exact ih _ hj σ l2 ((t1 ||| t0)) ((l4 + 1)) q _ _ _ h hw (lv_sub hl [2, 3, 4, 1, 0] rfl) K
      refine lv_iload cx.1 cx.2.1 dX3_holders_51 (lv_at hl 4 rfl) ?_
      refine lv_aload_n cx.1 cx.2.1 dX3_holders_53 rfl (lv_at hl 0 rfl) ?_
      refine cd_gI (o := 3) (k := 12) (f := 108) hj cx hw hic3 rfl ⟨by decide, rfl, by decide, rfl⟩ rfl (by decide) (List.mem_cons_of_mem _ cm_334) dX3_holders_54 ?_
      refine lv_icmp_ge (tgt := 89) cx.1 cx.2.1 dX3_holders_57 (by decide) (fun c57 => ?_) (fun c57 => ?_)
      · have h := md_ip c57 h
        obtain rfl := Option.some.inj h
        exact K _ hj _ _ _ hw (lv_sub hl [0, 1, 3] rfl)
      · have h := md_in c57 h
        refine lv_iload_n cx.1 cx.2.1 dX3_holders_60 rfl (lv_at hl 3 rfl) ?_
        refine lv_aload_n cx.1 cx.2.1 dX3_holders_61 rfl (lv_at hl 0 rfl) ?_
        refine cd_gA (o := 3) (k := 4) (f := 100) hj cx hw hic3 rfl ⟨by decide, rfl, by decide, rfl⟩ rfl (by decide) (List.mem_cons_of_mem _ cm_335) dX3_holders_62 ?_
        refine lv_iload cx.1 cx.2.1 dX3_holders_65 (lv_at hl 4 rfl) ?_
        obtain ⟨v4, e_v4, h⟩ := md_ob h
        refine cd_lI (f := 100) hj cx hw (by decide) (by decide) rfl e_v4 dX3_holders_67 ?_
        refine lv_iload_n cx.1 cx.2.1 dX3_holders_68 rfl (lv_at hl 2 rfl) ?_
        refine lv_iand cx.1 cx.2.1 dX3_holders_69 ?_
        refine lv_if_eq (tgt := 80) cx.1 cx.2.1 dX3_holders_70 (by decide) (fun c70 => ?_) (fun c70 => ?_)
        · have h := md_ip c70 h
          refine lv_iconst (v := 0) cx.1 cx.2.1 dX3_holders_80 (by decide) ?_
          exact J81 _ hj σ l4 0 l3 _ _ _ h hw (lv_sub hl [0, 1, 2, 4] rfl)
        · have h := md_in c70 h
          refine lv_iconst (v := 1) cx.1 cx.2.1 dX3_holders_73 (by decide) ?_
          refine lv_iload cx.1 cx.2.1 dX3_holders_74 (lv_at hl 4 rfl) ?_
          refine lv_ishl cx.1 cx.2.1 dX3_holders_76 ?_
          refine lv_goto (tgt := 81) cx.1 cx.2.1 dX3_holders_77 (by decide) ?_
          exact J81 _ hj σ l4 (((1 : Int32) <<< (l4 &&& 31))) l3 _ _ _ h hw (lv_sub hl [0, 1, 2, 4] rfl)
  obtain ⟨q5, e_q5, h⟩ := md_ob h
  refine L51 n _ hj q3.1 (q3.2.1) 0 0 q5 _ _ _ e_q5 hw (lv_sub hl [2, 3, 4, 1, 0] rfl) (fun ca hj H locs ls hw hl => ?_)
  refine lv_iconst (v := 0) cx.1 cx.2.1 dX3_holders_89 (by decide) ?_
  refine lv_istore (lv' := [(4, .int 0), (0, .ref (ad 3 0)), (1, .ref (ad 5 a1)), (3, .int q5.2.1)]) cx.1 cx.2.1 dX3_holders_90 hl (by decide) rfl (fun ls hl => ?_)
  have L92 : ∀ (j : Nat) (ca : Nat → Nat) (hj : cd_inj ad ca) (σ : cd_S) (l3 : Int32) (l4 : Int32) (q : (cd_S × Int32 × Int32)) (H : Heap) (locs : List Loc) (ls : Array Slot), f_X3_holders_L92 n a1 j σ l3 l4 = some q → hp_w D vwCl (hp_Tl cA) E (hp_A (cd_pic cA ad ca0 σ0) sz) ss H locs (cd_pic cA ad ca σ) → lv_has ls 5 [(0, .ref (ad 3 0)), (1, .ref (ad 5 a1)), (3, .int l3), (4, .int l4)] → (∀ (ca : Nat → Nat) (hj : cd_inj ad ca) (H : Heap) (locs : List Loc) (ls : Array Slot), hp_w D vwCl (hp_Tl cA) E (hp_A (cd_pic cA ad ca0 σ0) sz) ss H locs (cd_pic cA ad ca q.1) → lv_has ls 5 [(3, .int q.2.1)] → W pp l ee ({ frames := 2, cells := 0, slots := 0, locals := 49 }) ss mm [.ref (ad 3 0), .ref (ad 5 a1)].toArray bb mt cd H locs 0 0 (MQ bb (hp_Qi D vwCl (hp_Tl cA) sz (cd_pic cA ad ca0 σ0) (fun r u => r = p.1 ∧ ∃ ca1, cd_inj ad ca1 ∧ u = cd_pic cA ad ca1 p.2)) [.ref (ad 3 0), .ref (ad 5 a1)].toArray ss 0 0 (hp_A (cd_pic cA ad ca0 σ0) sz)) (F0 mm 144 ls [])) → W pp l ee ({ frames := 2, cells := 0, slots := 0, locals := 49 }) ss mm [.ref (ad 3 0), .ref (ad 5 a1)].toArray bb mt cd H locs 0 0 (MQ bb (hp_Qi D vwCl (hp_Tl cA) sz (cd_pic cA ad ca0 σ0) (fun r u => r = p.1 ∧ ∃ ca1, cd_inj ad ca1 ∧ u = cd_pic cA ad ca1 p.2)) [.ref (ad 3 0), .ref (ad 5 a1)].toArray ss 0 0 (hp_A (cd_pic cA ad ca0 σ0) sz)) (F0 mm 92 ls []) := by
    intro j
    induction j with
    | zero => intro ca hj σ l3 l4 q H locs ls h; exact nomatch h
    | succ j ih =>
      intro ca hj σ l3 l4 q H locs ls h hw hl K
      unfold f_X3_holders_L92 at h
      have J136 : ∀ (ca : Nat → Nat) (hj : cd_inj ad ca) (σ : cd_S) (l4 : Int32) (t0 : Int32) (t1 : Int32) (H : Heap) (locs : List Loc) (ls : Array Slot), f_X3_holders_J136 n a1 (f_X3_holders_L92 n a1 j) σ l4 t0 t1 = some q → hp_w D vwCl (hp_Tl cA) E (hp_A (cd_pic cA ad ca0 σ0) sz) ss H locs (cd_pic cA ad ca σ) → lv_has ls 5 [(0, .ref (ad 3 0)), (1, .ref (ad 5 a1)), (4, .int l4)] → W pp l ee ({ frames := 2, cells := 0, slots := 0, locals := 49 }) ss mm [.ref (ad 3 0), .ref (ad 5 a1)].toArray bb mt cd H locs 0 0 (MQ bb (hp_Qi D vwCl (hp_Tl cA) sz (cd_pic cA ad ca0 σ0) (fun r u => r = p.1 ∧ ∃ ca1, cd_inj ad ca1 ∧ u = cd_pic cA ad ca1 p.2)) [.ref (ad 3 0), .ref (ad 5 a1)].toArray ss 0 0 (hp_A (cd_pic cA ad ca0 σ0) sz)) (F0 mm 136 ls [.int t0, .int t1]) := by
        intro ca hj σ l4 t0 t1 H locs ls h hw hl
        refine lv_ior cx.1 cx.2.1 dX3_holders_136 ?_
        refine lv_istore_n (lv' := [(3, .int (t1 ||| t0)), (0, .ref (ad 3 0)), (1, .ref (ad 5 a1)), (4, .int l4)]) cx.1 cx.2.1 dX3_holders_137 rfl hl (by decide) rfl (fun ls hl => ?_)
        refine lv_iinc (v := (l4 + 1)) (lv' := [(4, .int (l4 + 1)), (3, .int (t1 ||| t0)), (0, .ref (ad 3 0)), (1, .ref (ad 5 a1))]) cx.1 cx.2.1 dX3_holders_138 hl (k := 3) rfl rfl (by decide) rfl (fun ls hl => ?_)
        refine lv_goto (tgt := 92) cx.1 cx.2.1 dX3_holders_141 (by decide) ?_
        exact ih _ hj σ ((t1 ||| t0)) ((l4 + 1)) q _ _ _ h hw (lv_sub hl [2, 3, 1, 0] rfl) K
      refine lv_iload cx.1 cx.2.1 dX3_holders_92 (lv_at hl 3 rfl) ?_
      refine lv_aload_n cx.1 cx.2.1 dX3_holders_94 rfl (lv_at hl 0 rfl) ?_
      refine cd_gI (o := 3) (k := 11) (f := 107) hj cx hw hic3 rfl ⟨by decide, rfl, by decide, rfl⟩ rfl (by decide) (List.mem_cons_of_mem _ cm_336) dX3_holders_95 ?_
      refine lv_icmp_ge (tgt := 144) cx.1 cx.2.1 dX3_holders_98 (by decide) (fun c98 => ?_) (fun c98 => ?_)
      · have h := md_ip c98 h
        obtain rfl := Option.some.inj h
        exact K _ hj _ _ _ hw (lv_sub hl [2] rfl)
      · have h := md_in c98 h
        refine lv_iload_n cx.1 cx.2.1 dX3_holders_101 rfl (lv_at hl 2 rfl) ?_
        refine lv_aload_n cx.1 cx.2.1 dX3_holders_102 rfl (lv_at hl 0 rfl) ?_
        refine lv_bipush (v := 64) cx.1 cx.2.1 dX3_holders_103 (by decide) ?_
        refine lv_iload cx.1 cx.2.1 dX3_holders_105 (lv_at hl 3 rfl) ?_
        refine lv_bipush (v := 8) cx.1 cx.2.1 dX3_holders_107 (by decide) ?_
        refine lv_imul cx.1 cx.2.1 dX3_holders_109 ?_
        refine lv_iadd cx.1 cx.2.1 dX3_holders_110 ?_
        refine lv_aload_n cx.1 cx.2.1 dX3_holders_111 rfl (lv_at hl 0 rfl) ?_
        refine cd_gA (o := 3) (k := 3) (f := 99) hj cx hw hic3 rfl ⟨by decide, rfl, by decide, rfl⟩ rfl (by decide) (List.mem_cons_of_mem _ cm_337) dX3_holders_112 ?_
        refine lv_iload cx.1 cx.2.1 dX3_holders_115 (lv_at hl 3 rfl) ?_
        obtain ⟨v6, e_v6, h⟩ := md_ob h
        refine cd_lI (f := 99) hj cx hw (by decide) (by decide) rfl e_v6 dX3_holders_117 ?_
        refine lv_aload_n cx.1 cx.2.1 dX3_holders_118 rfl (lv_at hl 1 rfl) ?_
        obtain ⟨p7, e_p7, h⟩ := md_ob h
        refine hp_callVi (As := [.int ((64 : Int32) + (l4 * 8)), .int v6, .ref (ad 5 a1)]) (rest := [.int l3]) cx hw (kc_X3_anyHas l D cA E _ ad _ hj oq sgq sgv hE n σ (((64 : Int32) + (l4 * 8))) v6 a1 (show _ < 196 by omega) p7 e_p7) (cwV 3 cx.2.2.2.2.2.1 (cd_giV cm_329 cm_330 cm_331 cm_332 cm_333) rfl rfl rfl hdc_X3_anyHas ⟨Nat.le_of_ble_eq_true rfl, Nat.le_of_ble_eq_true rfl⟩) (cd_atO hj (by decide) (by decide)) rfl rfl hl.1 rfl (Nat.le_of_ble_eq_true rfl) dX3_holders_119 ⟨Nat.le_refl _, Nat.le_refl _⟩ (fun r u H locs hp hw => ?_)
        obtain ⟨rfl, ca, hj, rfl⟩ := hp
        refine lv_if_eq (tgt := 135) cx.1 cx.2.1 dX3_holders_122 (by decide) (fun c122 => ?_) (fun c122 => ?_)
        · have h := md_ip c122 h
          refine lv_iconst (v := 0) cx.1 cx.2.1 dX3_holders_135 (by decide) ?_
          exact J136 _ hj p7.2 l4 0 l3 _ _ _ h hw (lv_sub hl [0, 1, 3] rfl)
        · have h := md_in c122 h
          refine lv_iconst (v := 1) cx.1 cx.2.1 dX3_holders_125 (by decide) ?_
          refine lv_bipush (v := 8) cx.1 cx.2.1 dX3_holders_126 (by decide) ?_
          refine lv_iload cx.1 cx.2.1 dX3_holders_128 (lv_at hl 3 rfl) ?_
          refine lv_iadd cx.1 cx.2.1 dX3_holders_130 ?_
          refine lv_ishl cx.1 cx.2.1 dX3_holders_131 ?_
          refine lv_goto (tgt := 136) cx.1 cx.2.1 dX3_holders_132 (by decide) ?_
          exact J136 _ hj p7.2 l4 (((1 : Int32) <<< (((8 : Int32) + l4) &&& 31))) l3 _ _ _ h hw (lv_sub hl [0, 1, 3] rfl)
  obtain ⟨q8, e_q8, h⟩ := md_ob h
  refine L92 n _ hj q5.1 (q5.2.1) 0 q8 _ _ _ e_q8 hw (lv_sub hl [1, 2, 3, 0] rfl) (fun ca hj H locs ls hw hl => ?_)
  refine lv_iload_n cx.1 cx.2.1 dX3_holders_144 rfl (lv_at hl 0 rfl) ?_
  exact hp_iret cx hw (cd_ret hj h) dX3_holders_145
set_option maxHeartbeats 4000000 in
set_option maxRecDepth 100000 in
theorem kc_X3_holdersOf (l : Launch) (D : va_G) (cA : Nat → ClassId) (E : hp_N) (sz : Nat) (ad : Nat → Nat → Nat) (ca0 : Nat → Nat) (hj : cd_inj ad ca0) (oq sgq sgv : Nat) (hE : cd_E E oq sgq sgv) (n : Nat) (σ0 : cd_S) (a1 : Int32) (p : (Int32 × cd_S)) (h : f_X3_holdersOf n σ0 a1 = some p) : Met l yX3_holdersOf (Cond.code yX3_holdersOf cX3_holdersOf 2 (some .int) :: v_CLS) ({ frames := 0, cells := 0, slots := 0, locals := 0 }) (hp_Pc D vwCl (hp_Tl cA) E sz (cd_pic cA ad ca0 σ0) [.ref (ad 3 0), .int a1]) (hp_Qi D vwCl (hp_Tl cA) sz (cd_pic cA ad ca0 σ0) (fun r u => r = p.1 ∧ ∃ ca1, cd_inj ad ca1 ∧ u = cd_pic cA ad ca1 p.2)) 0 0 (hp_A (cd_pic cA ad ca0 σ0) sz) := by
  refine hp_ofW (cc := cX3_holdersOf) (maxL := 2) (ret := (some .int)) (by decide) rfl (Nat.le_of_ble_eq_true rfl) ?_
  intro pp ee ss mm bb mt cd ls cx hsz hw hl
  have hl : lv_has ls 2 [(0, .ref (ad 3 0)), (1, .int a1)] := hl
  refine lv_iload_n cx.1 cx.2.1 dX3_holdersOf_0 rfl (lv_at hl 1 rfl) ?_
  refine lv_if_lt (tgt := 21) cx.1 cx.2.1 dX3_holdersOf_1 (by decide) (fun c1 => ?_) (fun c1 => ?_)
  · have h := md_ip c1 h
    refine lv_iconst (v := 0) cx.1 cx.2.1 dX3_holdersOf_21 (by decide) ?_
    exact hp_iret cx hw (cd_ret hj h) dX3_holdersOf_22
  · have h := md_in c1 h
    refine lv_iload_n cx.1 cx.2.1 dX3_holdersOf_4 rfl (lv_at hl 1 rfl) ?_
    refine lv_aload_n cx.1 cx.2.1 dX3_holdersOf_5 rfl (lv_at hl 0 rfl) ?_
    refine cd_gI (o := 3) (k := 13) (f := 109) hj cx hw hic3 rfl ⟨by decide, rfl, by decide, rfl⟩ rfl (by decide) (List.mem_cons_of_mem _ cm_310) dX3_holdersOf_6 ?_
    refine lv_icmp_ge (tgt := 21) cx.1 cx.2.1 dX3_holdersOf_9 (by decide) (fun c9 => ?_) (fun c9 => ?_)
    · have h := md_ip c9 h
      refine lv_iconst (v := 0) cx.1 cx.2.1 dX3_holdersOf_21 (by decide) ?_
      exact hp_iret cx hw (cd_ret hj h) dX3_holdersOf_22
    · have h := md_in c9 h
      refine lv_aload_n cx.1 cx.2.1 dX3_holdersOf_12 rfl (lv_at hl 0 rfl) ?_
      refine cd_gA (o := 3) (k := 8) (f := 104) hj cx hw hic3 rfl ⟨by decide, rfl, by decide, rfl⟩ rfl (by decide) (List.mem_cons_of_mem _ cm_338) dX3_holdersOf_13 ?_
      refine lv_iload_n cx.1 cx.2.1 dX3_holdersOf_16 rfl (lv_at hl 1 rfl) ?_
      obtain ⟨v1, e_v1, h⟩ := md_ob h
      refine cd_lI (f := 104) hj cx hw (by decide) (by decide) rfl e_v1 dX3_holdersOf_17 ?_
      refine lv_goto (tgt := 22) cx.1 cx.2.1 dX3_holdersOf_18 (by decide) ?_
      exact hp_iret cx hw (cd_ret hj h) dX3_holdersOf_22
set_option maxHeartbeats 4000000 in
set_option maxRecDepth 100000 in
theorem kc_X3_isIndexed (l : Launch) (D : va_G) (cA : Nat → ClassId) (E : hp_N) (sz : Nat) (ad : Nat → Nat → Nat) (ca0 : Nat → Nat) (hj : cd_inj ad ca0) (oq sgq sgv : Nat) (hE : cd_E E oq sgq sgv) (n : Nat) (σ0 : cd_S) (a1 : Int32) (p : (Int32 × cd_S)) (h : f_X3_isIndexed n σ0 a1 = some p) : Met l yX3_isIndexed (Cond.code yX3_isIndexed cX3_isIndexed 2 (some .boolean) :: v_CLS) ({ frames := 0, cells := 0, slots := 0, locals := 0 }) (hp_Pc D vwCl (hp_Tl cA) E sz (cd_pic cA ad ca0 σ0) [.ref (ad 3 0), .int a1]) (hp_Qi D vwCl (hp_Tl cA) sz (cd_pic cA ad ca0 σ0) (fun r u => r = p.1 ∧ ∃ ca1, cd_inj ad ca1 ∧ u = cd_pic cA ad ca1 p.2)) 0 0 (hp_A (cd_pic cA ad ca0 σ0) sz) := by
  refine hp_ofW (cc := cX3_isIndexed) (maxL := 2) (ret := (some .boolean)) (by decide) rfl (Nat.le_of_ble_eq_true rfl) ?_
  intro pp ee ss mm bb mt cd ls cx hsz hw hl
  have hl : lv_has ls 2 [(0, .ref (ad 3 0)), (1, .int a1)] := hl
  refine lv_iload_n cx.1 cx.2.1 dX3_isIndexed_0 rfl (lv_at hl 1 rfl) ?_
  refine lv_if_lt (tgt := 25) cx.1 cx.2.1 dX3_isIndexed_1 (by decide) (fun c1 => ?_) (fun c1 => ?_)
  · have h := md_ip c1 h
    refine lv_iconst (v := 0) cx.1 cx.2.1 dX3_isIndexed_25 (by decide) ?_
    exact hp_zret cx hw (cd_ret hj h) (by decide) dX3_isIndexed_26
  · have h := md_in c1 h
    refine lv_iload_n cx.1 cx.2.1 dX3_isIndexed_4 rfl (lv_at hl 1 rfl) ?_
    refine lv_aload_n cx.1 cx.2.1 dX3_isIndexed_5 rfl (lv_at hl 0 rfl) ?_
    refine cd_gI (o := 3) (k := 13) (f := 109) hj cx hw hic3 rfl ⟨by decide, rfl, by decide, rfl⟩ rfl (by decide) (List.mem_cons_of_mem _ cm_310) dX3_isIndexed_6 ?_
    refine lv_icmp_ge (tgt := 25) cx.1 cx.2.1 dX3_isIndexed_9 (by decide) (fun c9 => ?_) (fun c9 => ?_)
    · have h := md_ip c9 h
      refine lv_iconst (v := 0) cx.1 cx.2.1 dX3_isIndexed_25 (by decide) ?_
      exact hp_zret cx hw (cd_ret hj h) (by decide) dX3_isIndexed_26
    · have h := md_in c9 h
      refine lv_aload_n cx.1 cx.2.1 dX3_isIndexed_12 rfl (lv_at hl 0 rfl) ?_
      refine cd_gA (o := 3) (k := 7) (f := 103) hj cx hw hic3 rfl ⟨by decide, rfl, by decide, rfl⟩ rfl (by decide) (List.mem_cons_of_mem _ cm_339) dX3_isIndexed_13 ?_
      refine lv_iload_n cx.1 cx.2.1 dX3_isIndexed_16 rfl (lv_at hl 1 rfl) ?_
      obtain ⟨v1, e_v1, h⟩ := md_ob h
      refine cd_lZ (f := 103) hj cx hw (by decide) (by decide) rfl e_v1 dX3_isIndexed_17 ?_
      refine lv_if_eq (tgt := 25) cx.1 cx.2.1 dX3_isIndexed_18 (by decide) (fun c18 => ?_) (fun c18 => ?_)
      · have h := md_ip c18 h
        refine lv_iconst (v := 0) cx.1 cx.2.1 dX3_isIndexed_25 (by decide) ?_
        exact hp_zret cx hw (cd_ret hj h) (by decide) dX3_isIndexed_26
      · have h := md_in c18 h
        refine lv_iconst (v := 1) cx.1 cx.2.1 dX3_isIndexed_21 (by decide) ?_
        refine lv_goto (tgt := 26) cx.1 cx.2.1 dX3_isIndexed_22 (by decide) ?_
        exact hp_zret cx hw (cd_ret hj h) (by decide) dX3_isIndexed_26
set_option maxHeartbeats 4000000 in
set_option maxRecDepth 100000 in
theorem kc_X6_pop (l : Launch) (D : va_G) (cA : Nat → ClassId) (E : hp_N) (sz : Nat) (ad : Nat → Nat → Nat) (ca0 : Nat → Nat) (hj : cd_inj ad ca0) (oq sgq sgv : Nat) (hE : cd_E E oq sgq sgv) (n : Nat) (σ0 : cd_S) (a0 : Nat) (hb_a0 : a0 < 197) (p : (Int64 × cd_S)) (h : f_X6_pop n σ0 a0 = some p) : Met l yX6_pop (Cond.code yX6_pop cX6_pop 1 (some .long) :: v_CLS) ({ frames := 0, cells := 0, slots := 0, locals := 0 }) (hp_Pc D vwCl (hp_Tl cA) E sz (cd_pic cA ad ca0 σ0) [.ref (ad 6 a0)]) (hp_Ql D vwCl (hp_Tl cA) sz (cd_pic cA ad ca0 σ0) (fun r u => r = p.1 ∧ ∃ ca1, cd_inj ad ca1 ∧ u = cd_pic cA ad ca1 p.2)) 0 0 (hp_A (cd_pic cA ad ca0 σ0) sz) := by
  refine hp_ofW (cc := cX6_pop) (maxL := 1) (ret := (some .long)) (by decide) rfl (Nat.le_of_ble_eq_true rfl) ?_
  intro pp ee ss mm bb mt cd ls cx hsz hw hl
  have hl : lv_has ls 1 [(0, .ref (ad 6 a0))] := hl
  refine lv_aload_n cx.1 cx.2.1 dX6_pop_0 rfl (lv_at hl 0 rfl) ?_
  refine cd_gI (o := 6) (k := 1) (f := 193) hj cx hw hic6 rfl ⟨by decide, rfl, by decide, rfl⟩ rfl (show _ < 197 by omega) (List.mem_cons_of_mem _ cm_0) dX6_pop_1 ?_
  refine lv_if_gt (tgt := 9) cx.1 cx.2.1 dX6_pop_4 (by decide) (fun c4 => ?_) (fun c4 => ?_)
  · have h := md_ip c4 h
    refine lv_aload_n cx.1 cx.2.1 dX6_pop_9 rfl (lv_at hl 0 rfl) ?_
    refine lv_dup cx.1 cx.2.1 dX6_pop_10 rfl ?_
    refine cd_gI (o := 6) (k := 1) (f := 193) hj cx hw hic6 rfl ⟨by decide, rfl, by decide, rfl⟩ rfl (show _ < 197 by omega) (List.mem_cons_of_mem _ cm_0) dX6_pop_11 ?_
    refine lv_iconst (v := 1) cx.1 cx.2.1 dX6_pop_14 (by decide) ?_
    refine lv_isub cx.1 cx.2.1 dX6_pop_15 ?_
    obtain ⟨σ1, e_σ1, h⟩ := md_ob h
    refine cd_pI (o := 6) (k := 1) (f := 193) hj cx hw hic6 rfl ⟨by decide, rfl, by decide, rfl⟩ tyX6_ok nmX6 rfl (show _ < 197 by omega) rfl (List.mem_cons_of_mem _ cm_0) rfl e_σ1 dX6_pop_16 (fun H locs hw => ?_)
    refine lv_aload_n cx.1 cx.2.1 dX6_pop_19 rfl (lv_at hl 0 rfl) ?_
    refine cd_gC (o := 6) (k := 0) (f := 192) hj cx hw hic6 rfl ⟨by decide, rfl, by decide, rfl⟩ rfl (show _ < 197 by omega) (List.mem_cons_of_mem _ cm_15) dX6_pop_20 ?_
    refine lv_aload_n cx.1 cx.2.1 dX6_pop_23 rfl (lv_at hl 0 rfl) ?_
    refine cd_gI (o := 6) (k := 1) (f := 193) hj cx hw hic6 rfl ⟨by decide, rfl, by decide, rfl⟩ rfl (show _ < 197 by omega) (List.mem_cons_of_mem _ cm_0) dX6_pop_24 ?_
    obtain ⟨v2, e_v2, h⟩ := md_ob h
    refine cd_lF hj cx hw (show _ < 197 by omega) e_v2 dX6_pop_27 ?_
    exact hp_lret cx hw (cd_ret hj h) dX6_pop_28
  · have h := md_in c4 h
    refine lv_lconst (v := 0) cx.1 cx.2.1 dX6_pop_7 (by decide) ?_
    exact hp_lret cx hw (cd_ret hj h) dX6_pop_8
set_option maxHeartbeats 4000000 in
set_option maxRecDepth 100000 in
theorem kc_X1_ask (l : Launch) (D : va_G) (cA : Nat → ClassId) (E : hp_N) (sz : Nat) (ad : Nat → Nat → Nat) (ca0 : Nat → Nat) (hj : cd_inj ad ca0) (oq sgq sgv : Nat) (hE : cd_E E oq sgq sgv) (n : Nat) (σ0 : cd_S) (b0 : cd_B) (a1 : Nat) (a2 : Int32) (a3 : Int32) (hb_a1 : a1 < 8) (p : (Int32 × cd_S × cd_B)) (h : f_X1_ask n σ0 b0 a1 a2 a3 = some p) : (p.2.2.1 ≤ b0.1 ∧ p.2.2.2 ≤ b0.2) ∧ Met l yX1_ask (Cond.code yX1_ask cX1_ask 8 (some .int) :: v_CLS) ({ frames := 5, cells := b0.1 - p.2.2.1, slots := b0.2 - p.2.2.2, locals := 136 }) (hp_Pc D vwCl (hp_Tl cA) E sz (cd_pic cA ad ca0 σ0) [.ref (ad 1 0), .ref (ad 7 a1), .int a2, .int a3]) (hp_Qi D vwCl (hp_Tl cA) sz (cd_pic cA ad ca0 σ0) (fun r u => r = p.1 ∧ ∃ ca1, cd_inj ad ca1 ∧ u = cd_pic cA ad ca1 p.2.1)) (b0.1 - p.2.2.1) (b0.2 - p.2.2.2) (hp_A (cd_pic cA ad ca0 σ0) sz) := by
  obtain ⟨hm0, hn0, h⟩ := cd_cks h
  have hM0 : p.2.2.1 ≤ b0.1 ∧ p.2.2.2 ≤ b0.2 := ⟨hm0, hn0⟩
  refine ⟨hM0, ?_⟩
  refine hp_ofW (cc := cX1_ask) (maxL := 8) (ret := (some .int)) (by decide) rfl (Nat.le_of_ble_eq_true rfl) ?_
  intro pp ee ss mm bb mt cd ls cx hsz hw hl
  have hl : lv_has ls 8 [(0, .ref (ad 1 0)), (1, .ref (ad 7 a1)), (2, .int a2), (3, .int a3)] := hl
  refine W.widen (k := b0.1 - b0.1) (n := b0.2 - b0.2) (Nat.zero_le _) (Nat.zero_le _) ?_
  have J176 : ∀ (ca : Nat → Nat) (hj : cd_inj ad ca) (σ : cd_S) (b : cd_B) (l7 : Int32) (H : Heap) (locs : List Loc) (ls : Array Slot), b.1 ≤ b0.1 → b.2 ≤ b0.2 → p.2.2.1 ≤ b.1 → p.2.2.2 ≤ b.2 → f_X1_ask_J176 n a1 σ b l7 = some p → hp_w D vwCl (hp_Tl cA) E (hp_A (cd_pic cA ad ca0 σ0) sz) ss H locs (cd_pic cA ad ca σ) → lv_has ls 8 [(1, .ref (ad 7 a1)), (7, .int l7)] → W pp l ee ({ frames := 5, cells := b0.1 - p.2.2.1, slots := b0.2 - p.2.2.2, locals := 136 }) ss mm [.ref (ad 1 0), .ref (ad 7 a1), .int a2, .int a3].toArray bb mt cd H locs (b0.1 - b.1) (b0.2 - b.2) (MQ bb (hp_Qi D vwCl (hp_Tl cA) sz (cd_pic cA ad ca0 σ0) (fun r u => r = p.1 ∧ ∃ ca1, cd_inj ad ca1 ∧ u = cd_pic cA ad ca1 p.2.1)) [.ref (ad 1 0), .ref (ad 7 a1), .int a2, .int a3].toArray ss (b0.1 - p.2.2.1) (b0.2 - p.2.2.2) (hp_A (cd_pic cA ad ca0 σ0) sz)) (F0 mm 176 ls []) := by
    intro ca hj σ b l7 H locs ls hb1 hb2 hf1 hf2 h hw hl
    refine lv_aload_n cx.1 cx.2.1 dX1_ask_176 rfl (lv_at hl 0 rfl) ?_
    refine lv_iconst (v := 0) cx.1 cx.2.1 dX1_ask_177 (by decide) ?_
    refine lv_iload cx.1 cx.2.1 dX1_ask_178 (lv_at hl 1 rfl) ?_
    obtain ⟨p1, e_p1, h⟩ := md_ob h
    refine hp_callSl (As := [.int 0, .int l7]) (rest := [.ref (ad 7 a1)]) cx hw (kc_X1_valueOf l D cA E _ ad _ hj oq sgq sgv hE n σ (0 : Int32) l7 p1 e_p1) (cwS 2 cx.2.2.2.2.2.1 (cd_giS cm_154 cm_155 cm_130 cm_156) rfl rfl rfl hdc_X1_valueOf ⟨Nat.le_of_ble_eq_true rfl, Nat.le_of_ble_eq_true rfl⟩) rfl hl.1 rfl (Nat.le_of_ble_eq_true rfl) dX1_ask_180 ⟨by (try dsimp only); omega, by (try dsimp only); omega⟩ (fun r u H locs hp hw => ?_)
    obtain ⟨rfl, ca, hj, rfl⟩ := hp
    obtain ⟨p2, e_p2, h⟩ := md_ob h
    obtain ⟨hm3, hn3, h⟩ := cd_cks h
    have hM3 : p.2.2.1 ≤ p2.2.2.1 ∧ p.2.2.2 ≤ p2.2.2.2 := ⟨hm3, hn3⟩
    have hle2 := (kc_X1_push l D cA E sz ad _ hj oq sgq sgv hE n p1.2 b a1 (p1.1) (show _ < 8 by omega) p2 e_p2).1
    refine hp_callSi (As := [.ref (ad 7 a1), .long p1.1]) (rest := []) cx hw ((kc_X1_push l D cA E _ ad _ hj oq sgq sgv hE n p1.2 b a1 (p1.1) (show _ < 8 by omega) p2 e_p2).2) (cwS 2 cx.2.2.2.2.2.1 (cd_giS cm_157 cm_158 cm_130 cm_159) rfl rfl rfl hdc_X1_push ⟨Nat.le_of_ble_eq_true rfl, Nat.le_of_ble_eq_true rfl⟩) rfl hl.1 rfl (Nat.le_of_ble_eq_true rfl) dX1_ask_183 ⟨by (try dsimp only); omega, by (try dsimp only); omega⟩ (fun r u H locs hp hw => ?_)
    obtain ⟨rfl, ca, hj, rfl⟩ := hp
    refine W.widen (k := b0.1 - p2.2.2.1) (n := b0.2 - p2.2.2.2) (by omega) (by omega) ?_
    exact hp_iret cx hw (cd_retb hj h) dX1_ask_186 (cd_le1 h) (cd_le2 h)
  have J159 : ∀ (ca : Nat → Nat) (hj : cd_inj ad ca) (σ : cd_S) (b : cd_B) (l3 : Int32) (l6 : Int32) (l7 : Int32) (H : Heap) (locs : List Loc) (ls : Array Slot), b.1 ≤ b0.1 → b.2 ≤ b0.2 → p.2.2.1 ≤ b.1 → p.2.2.2 ≤ b.2 → f_X1_ask_J159 n a1 σ b l3 l6 l7 = some p → hp_w D vwCl (hp_Tl cA) E (hp_A (cd_pic cA ad ca0 σ0) sz) ss H locs (cd_pic cA ad ca σ) → lv_has ls 8 [(1, .ref (ad 7 a1)), (3, .int l3), (6, .int l6), (7, .int l7)] → W pp l ee ({ frames := 5, cells := b0.1 - p.2.2.1, slots := b0.2 - p.2.2.2, locals := 136 }) ss mm [.ref (ad 1 0), .ref (ad 7 a1), .int a2, .int a3].toArray bb mt cd H locs (b0.1 - b.1) (b0.2 - b.2) (MQ bb (hp_Qi D vwCl (hp_Tl cA) sz (cd_pic cA ad ca0 σ0) (fun r u => r = p.1 ∧ ∃ ca1, cd_inj ad ca1 ∧ u = cd_pic cA ad ca1 p.2.1)) [.ref (ad 1 0), .ref (ad 7 a1), .int a2, .int a3].toArray ss (b0.1 - p.2.2.1) (b0.2 - p.2.2.2) (hp_A (cd_pic cA ad ca0 σ0) sz)) (F0 mm 159 ls []) := by
    intro ca hj σ b l3 l6 l7 H locs ls hb1 hb2 hf1 hf2 h hw hl
    refine lv_iload_n cx.1 cx.2.1 dX1_ask_159 rfl (lv_at hl 1 rfl) ?_
    refine lv_if_eq (tgt := 176) cx.1 cx.2.1 dX1_ask_160 (by decide) (fun c160 => ?_) (fun c160 => ?_)
    · have h := md_ip c160 h
      exact J176 _ hj σ b l7 _ _ _ (by omega) (by omega) (by omega) (by omega) h hw (lv_sub hl [0, 3] rfl)
    · have h := md_in c160 h
      refine lv_iload cx.1 cx.2.1 dX1_ask_163 (lv_at hl 2 rfl) ?_
      refine lv_if_ne (tgt := 176) cx.1 cx.2.1 dX1_ask_165 (by decide) (fun c165 => ?_) (fun c165 => ?_)
      · have h := md_in c165 h
        exact J176 _ hj σ b l7 _ _ _ (by omega) (by omega) (by omega) (by omega) h hw (lv_sub hl [0, 3] rfl)
      · have h := md_ip c165 h
        refine lv_aload_n cx.1 cx.2.1 dX1_ask_168 rfl (lv_at hl 0 rfl) ?_
        refine lv_iconst (v := 1) cx.1 cx.2.1 dX1_ask_169 (by decide) ?_
        obtain ⟨p4, e_p4, h⟩ := md_ob h
        refine hp_callSi (As := [.ref (ad 7 a1), .int 1]) (rest := []) cx hw (kc_X1_fail l D cA E _ ad _ hj oq sgq sgv hE n σ a1 (1 : Int32) (show _ < 8 by omega) p4 e_p4) (cwS 2 cx.2.2.2.2.2.1 (cd_giS cm_132 cm_133 cm_130 cm_134) rfl rfl rfl hdc_X1_fail ⟨Nat.le_of_ble_eq_true rfl, Nat.le_of_ble_eq_true rfl⟩) rfl hl.1 rfl (Nat.le_of_ble_eq_true rfl) dX1_ask_170 ⟨by (try dsimp only); omega, by (try dsimp only); omega⟩ (fun r u H locs hp hw => ?_)
        obtain ⟨rfl, ca, hj, rfl⟩ := hp
        refine lv_goto (tgt := 186) cx.1 cx.2.1 dX1_ask_173 (by decide) ?_
        exact hp_iret cx hw (cd_retb hj h) dX1_ask_186 (cd_le1 h) (cd_le2 h)
  have J142 : ∀ (ca : Nat → Nat) (hj : cd_inj ad ca) (σ : cd_S) (b : cd_B) (l2 : Int32) (l3 : Int32) (l4 : Int32) (l6 : Int32) (t0 : Int32) (H : Heap) (locs : List Loc) (ls : Array Slot), b.1 ≤ b0.1 → b.2 ≤ b0.2 → p.2.2.1 ≤ b.1 → p.2.2.2 ≤ b.2 → f_X1_ask_J142 n a1 σ b l2 l3 l4 l6 t0 = some p → hp_w D vwCl (hp_Tl cA) E (hp_A (cd_pic cA ad ca0 σ0) sz) ss H locs (cd_pic cA ad ca σ) → lv_has ls 8 [(0, .ref (ad 1 0)), (1, .ref (ad 7 a1)), (2, .int l2), (3, .int l3), (4, .int l4), (6, .int l6)] → W pp l ee ({ frames := 5, cells := b0.1 - p.2.2.1, slots := b0.2 - p.2.2.2, locals := 136 }) ss mm [.ref (ad 1 0), .ref (ad 7 a1), .int a2, .int a3].toArray bb mt cd H locs (b0.1 - b.1) (b0.2 - b.2) (MQ bb (hp_Qi D vwCl (hp_Tl cA) sz (cd_pic cA ad ca0 σ0) (fun r u => r = p.1 ∧ ∃ ca1, cd_inj ad ca1 ∧ u = cd_pic cA ad ca1 p.2.1)) [.ref (ad 1 0), .ref (ad 7 a1), .int a2, .int a3].toArray ss (b0.1 - p.2.2.1) (b0.2 - p.2.2.2) (hp_A (cd_pic cA ad ca0 σ0) sz)) (F0 mm 142 ls [.int t0]) := by
    intro ca hj σ b l2 l3 l4 l6 t0 H locs ls hb1 hb2 hf1 hf2 h hw hl
    refine lv_istore (lv' := [(7, .int t0), (0, .ref (ad 1 0)), (1, .ref (ad 7 a1)), (2, .int l2), (3, .int l3), (4, .int l4), (6, .int l6)]) cx.1 cx.2.1 dX1_ask_142 hl (by decide) rfl (fun ls hl => ?_)
    refine lv_iload_n cx.1 cx.2.1 dX1_ask_144 rfl (lv_at hl 4 rfl) ?_
    refine lv_if_eq (tgt := 159) cx.1 cx.2.1 dX1_ask_145 (by decide) (fun c145 => ?_) (fun c145 => ?_)
    · have h := md_ip c145 h
      exact J159 _ hj σ b l3 l6 t0 _ _ _ (by omega) (by omega) (by omega) (by omega) h hw (lv_sub hl [2, 4, 6, 0] rfl)
    · have h := md_in c145 h
      refine lv_aload_n cx.1 cx.2.1 dX1_ask_148 rfl (lv_at hl 1 rfl) ?_
      refine lv_aload_n cx.1 cx.2.1 dX1_ask_149 rfl (lv_at hl 2 rfl) ?_
      refine lv_iconst (v := 1) cx.1 cx.2.1 dX1_ask_150 (by decide) ?_
      refine lv_iload cx.1 cx.2.1 dX1_ask_151 (lv_at hl 0 rfl) ?_
      refine lv_iload_n cx.1 cx.2.1 dX1_ask_153 rfl (lv_at hl 3 rfl) ?_
      refine lv_iload cx.1 cx.2.1 dX1_ask_154 (lv_at hl 5 rfl) ?_
      obtain ⟨p5, e_p5, h⟩ := md_ob h
      obtain ⟨hm6, hn6, h⟩ := cd_cks h
      have hM6 : p.2.2.1 ≤ p5.2.2.1 ∧ p.2.2.2 ≤ p5.2.2.2 := ⟨hm6, hn6⟩
      have hle5 := (kc_X1_record l D cA E sz ad _ hj oq sgq sgv hE n σ b a1 (1 : Int32) t0 l2 l4 (show _ < 8 by omega) p5 e_p5).1
      refine hp_callVv (As := [.ref (ad 7 a1), .int 1, .int t0, .int l2, .int l4]) (rest := []) cx hw ((kc_X1_record l D cA E _ ad _ hj oq sgq sgv hE n σ b a1 (1 : Int32) t0 l2 l4 (show _ < 8 by omega) p5 e_p5).2) (cwV 5 cx.2.2.2.2.2.1 (cd_giV cm_263 cm_264 cm_265 cm_130 cm_266) rfl rfl rfl hdc_X1_record ⟨Nat.le_of_ble_eq_true rfl, Nat.le_of_ble_eq_true rfl⟩) (cd_atO hj (by decide) (by decide)) rfl rfl hl.1 rfl (Nat.le_of_ble_eq_true rfl) dX1_ask_156 ⟨by (try dsimp only); omega, by (try dsimp only); omega⟩ (fun u H locs hp hw => ?_)
      obtain ⟨ca, hj, rfl⟩ := hp
      refine W.widen (k := b0.1 - p5.2.2.1) (n := b0.2 - p5.2.2.2) (by omega) (by omega) ?_
      exact J159 _ hj p5.2.1 (p5.2.2) l3 l6 t0 _ _ _ (by omega) (by omega) (by omega) (by omega) h hw (lv_sub hl [2, 4, 6, 0] rfl)
  have J130 : ∀ (ca : Nat → Nat) (hj : cd_inj ad ca) (σ : cd_S) (b : cd_B) (l2 : Int32) (l3 : Int32) (l4 : Int32) (t0 : Int32) (H : Heap) (locs : List Loc) (ls : Array Slot), b.1 ≤ b0.1 → b.2 ≤ b0.2 → p.2.2.1 ≤ b.1 → p.2.2.2 ≤ b.2 → f_X1_ask_J130 n a1 σ b l2 l3 l4 t0 = some p → hp_w D vwCl (hp_Tl cA) E (hp_A (cd_pic cA ad ca0 σ0) sz) ss H locs (cd_pic cA ad ca σ) → lv_has ls 8 [(0, .ref (ad 1 0)), (1, .ref (ad 7 a1)), (2, .int l2), (3, .int l3), (4, .int l4)] → W pp l ee ({ frames := 5, cells := b0.1 - p.2.2.1, slots := b0.2 - p.2.2.2, locals := 136 }) ss mm [.ref (ad 1 0), .ref (ad 7 a1), .int a2, .int a3].toArray bb mt cd H locs (b0.1 - b.1) (b0.2 - b.2) (MQ bb (hp_Qi D vwCl (hp_Tl cA) sz (cd_pic cA ad ca0 σ0) (fun r u => r = p.1 ∧ ∃ ca1, cd_inj ad ca1 ∧ u = cd_pic cA ad ca1 p.2.1)) [.ref (ad 1 0), .ref (ad 7 a1), .int a2, .int a3].toArray ss (b0.1 - p.2.2.1) (b0.2 - p.2.2.2) (hp_A (cd_pic cA ad ca0 σ0) sz)) (F0 mm 130 ls [.int t0]) := by
    intro ca hj σ b l2 l3 l4 t0 H locs ls hb1 hb2 hf1 hf2 h hw hl
    refine lv_istore (lv' := [(6, .int t0), (0, .ref (ad 1 0)), (1, .ref (ad 7 a1)), (2, .int l2), (3, .int l3), (4, .int l4)]) cx.1 cx.2.1 dX1_ask_130 hl (by decide) rfl (fun ls hl => ?_)
    refine lv_iload cx.1 cx.2.1 dX1_ask_132 (lv_at hl 0 rfl) ?_
    refine lv_if_eq (tgt := 141) cx.1 cx.2.1 dX1_ask_134 (by decide) (fun c134 => ?_) (fun c134 => ?_)
    · have h := md_ip c134 h
      refine lv_iconst (v := 0) cx.1 cx.2.1 dX1_ask_141 (by decide) ?_
      exact J142 _ hj σ b l2 l3 l4 t0 0 _ _ _ (by omega) (by omega) (by omega) (by omega) h hw (lv_sub hl [1, 2, 3, 4, 5, 0] rfl)
    · have h := md_in c134 h
      refine lv_iconst (v := 1) cx.1 cx.2.1 dX1_ask_137 (by decide) ?_
      refine lv_goto (tgt := 142) cx.1 cx.2.1 dX1_ask_138 (by decide) ?_
      exact J142 _ hj σ b l2 l3 l4 t0 1 _ _ _ (by omega) (by omega) (by omega) (by omega) h hw (lv_sub hl [1, 2, 3, 4, 5, 0] rfl)
  have J97 : ∀ (ca : Nat → Nat) (hj : cd_inj ad ca) (σ : cd_S) (b : cd_B) (l2 : Int32) (l3 : Int32) (l4 : Int32) (l5 : Int32) (H : Heap) (locs : List Loc) (ls : Array Slot), b.1 ≤ b0.1 → b.2 ≤ b0.2 → p.2.2.1 ≤ b.1 → p.2.2.2 ≤ b.2 → f_X1_ask_J97 n a1 σ b l2 l3 l4 l5 = some p → hp_w D vwCl (hp_Tl cA) E (hp_A (cd_pic cA ad ca0 σ0) sz) ss H locs (cd_pic cA ad ca σ) → lv_has ls 8 [(0, .ref (ad 1 0)), (1, .ref (ad 7 a1)), (2, .int l2), (3, .int l3), (4, .int l4), (5, .int l5)] → W pp l ee ({ frames := 5, cells := b0.1 - p.2.2.1, slots := b0.2 - p.2.2.2, locals := 136 }) ss mm [.ref (ad 1 0), .ref (ad 7 a1), .int a2, .int a3].toArray bb mt cd H locs (b0.1 - b.1) (b0.2 - b.2) (MQ bb (hp_Qi D vwCl (hp_Tl cA) sz (cd_pic cA ad ca0 σ0) (fun r u => r = p.1 ∧ ∃ ca1, cd_inj ad ca1 ∧ u = cd_pic cA ad ca1 p.2.1)) [.ref (ad 1 0), .ref (ad 7 a1), .int a2, .int a3].toArray ss (b0.1 - p.2.2.1) (b0.2 - p.2.2.2) (hp_A (cd_pic cA ad ca0 σ0) sz)) (F0 mm 97 ls []) := by
    intro ca hj σ b l2 l3 l4 l5 H locs ls hb1 hb2 hf1 hf2 h hw hl
    refine lv_aload_n cx.1 cx.2.1 dX1_ask_97 rfl (lv_at hl 0 rfl) ?_
    refine cd_gI (o := 1) (k := 17) (f := 49) hj cx hw hic1 rfl ⟨by decide, rfl, by decide, rfl⟩ rfl (by decide) (List.mem_cons_of_mem _ cm_122) dX1_ask_98 ?_
    refine lv_if_eq (tgt := 120) cx.1 cx.2.1 dX1_ask_101 (by decide) (fun c101 => ?_) (fun c101 => ?_)
    · have h := md_ip c101 h
      refine lv_aload_n cx.1 cx.2.1 dX1_ask_120 rfl (lv_at hl 0 rfl) ?_
      refine lv_aload_n cx.1 cx.2.1 dX1_ask_121 rfl (lv_at hl 1 rfl) ?_
      obtain ⟨p7, e_p7, h⟩ := md_ob h
      refine hp_callVi (As := []) (rest := [.ref (ad 1 0)]) cx hw (kc_X7_nodeNow l D cA E _ ad _ hj oq sgq sgv hE n σ a1 (show _ < 8 by omega) p7 e_p7) (cwV 0 cx.2.2.2.2.2.1 (cd_giV cm_123 cm_124 cm_125 cm_94 cm_126) rfl rfl rfl hdc_X7_nodeNow ⟨Nat.le_of_ble_eq_true rfl, Nat.le_of_ble_eq_true rfl⟩) (cd_atO hj (by decide) (show _ < 8 by omega)) rfl rfl hl.1 rfl (Nat.le_of_ble_eq_true rfl) dX1_ask_122 ⟨by (try dsimp only); omega, by (try dsimp only); omega⟩ (fun r u H locs hp hw => ?_)
      obtain ⟨rfl, ca, hj, rfl⟩ := hp
      refine lv_iload cx.1 cx.2.1 dX1_ask_125 (lv_at hl 5 rfl) ?_
      obtain ⟨p8, e_p8, h⟩ := md_ob h
      refine hp_callVi (As := [.int p7.1, .int l5]) (rest := []) cx hw (kc_X1_walk l D cA E _ ad _ hj oq sgq sgv hE n p7.2 (p7.1) l5 p8 e_p8) (cwV 2 cx.2.2.2.2.2.1 (cd_giV cm_362 cm_363 cm_364 cm_130 cm_365) rfl rfl rfl hdc_X1_walk ⟨Nat.le_of_ble_eq_true rfl, Nat.le_of_ble_eq_true rfl⟩) (cd_atO hj (by decide) (by decide)) rfl rfl hl.1 rfl (Nat.le_of_ble_eq_true rfl) dX1_ask_127 ⟨by (try dsimp only); omega, by (try dsimp only); omega⟩ (fun r u H locs hp hw => ?_)
      obtain ⟨rfl, ca, hj, rfl⟩ := hp
      exact J130 _ hj p8.2 b l2 l3 l4 (p8.1) _ _ _ (by omega) (by omega) (by omega) (by omega) h hw (lv_sub hl [0, 1, 2, 3, 4] rfl)
    · have h := md_in c101 h
      refine lv_aload_n cx.1 cx.2.1 dX1_ask_104 rfl (lv_at hl 0 rfl) ?_
      refine cd_gO (o2 := 0) (e2 := 0) (o := 1) (k := 2) (f := 34) hj cx hw hic1 rfl ⟨by decide, rfl, by decide, rfl⟩ rfl (by decide) ⟨rfl, rfl⟩ (List.mem_cons_of_mem _ cm_76) dX1_ask_105 ?_
      refine lv_aload_n cx.1 cx.2.1 dX1_ask_108 rfl (lv_at hl 1 rfl) ?_
      obtain ⟨p9, e_p9, h⟩ := md_ob h
      refine hp_callVi (As := []) (rest := [.ref (ad 0 0)]) cx hw (kc_X7_contextNow l D cA E _ ad _ hj oq sgq sgv hE n σ a1 (show _ < 8 by omega) p9 e_p9) (cwV 0 cx.2.2.2.2.2.1 (cd_giV cm_136 cm_137 cm_138 cm_94 cm_139) rfl rfl rfl hdc_X7_contextNow ⟨Nat.le_of_ble_eq_true rfl, Nat.le_of_ble_eq_true rfl⟩) (cd_atO hj (by decide) (show _ < 8 by omega)) rfl rfl hl.1 rfl (Nat.le_of_ble_eq_true rfl) dX1_ask_109 ⟨by (try dsimp only); omega, by (try dsimp only); omega⟩ (fun r u H locs hp hw => ?_)
      obtain ⟨rfl, ca, hj, rfl⟩ := hp
      refine lv_iload cx.1 cx.2.1 dX1_ask_112 (lv_at hl 5 rfl) ?_
      obtain ⟨p10, e_p10, h⟩ := md_ob h
      refine hp_callVi (As := [.int p9.1, .int l5]) (rest := []) cx hw (kc_X0_grants l D cA E _ ad _ hj oq sgq sgv hE n p9.2 (p9.1) l5 p10 e_p10) (cwV 2 cx.2.2.2.2.2.1 (cd_giV cm_366 cm_367 cm_368 cm_23 cm_369) rfl rfl rfl hdc_X0_grants ⟨Nat.le_of_ble_eq_true rfl, Nat.le_of_ble_eq_true rfl⟩) (cd_atO hj (by decide) (by decide)) rfl rfl hl.1 rfl (Nat.le_of_ble_eq_true rfl) dX1_ask_114 ⟨by (try dsimp only); omega, by (try dsimp only); omega⟩ (fun r u H locs hp hw => ?_)
      obtain ⟨rfl, ca, hj, rfl⟩ := hp
      refine lv_goto (tgt := 130) cx.1 cx.2.1 dX1_ask_117 (by decide) ?_
      exact J130 _ hj p10.2 b l2 l3 l4 (p10.1) _ _ _ (by omega) (by omega) (by omega) (by omega) h hw (lv_sub hl [0, 1, 2, 3, 4] rfl)
  have J55 : ∀ (ca : Nat → Nat) (hj : cd_inj ad ca) (σ : cd_S) (b : cd_B) (l2 : Int32) (l3 : Int32) (l4 : Int32) (H : Heap) (locs : List Loc) (ls : Array Slot), b.1 ≤ b0.1 → b.2 ≤ b0.2 → p.2.2.1 ≤ b.1 → p.2.2.2 ≤ b.2 → f_X1_ask_J55 n a1 σ b l2 l3 l4 = some p → hp_w D vwCl (hp_Tl cA) E (hp_A (cd_pic cA ad ca0 σ0) sz) ss H locs (cd_pic cA ad ca σ) → lv_has ls 8 [(0, .ref (ad 1 0)), (1, .ref (ad 7 a1)), (2, .int l2), (3, .int l3), (4, .int l4)] → W pp l ee ({ frames := 5, cells := b0.1 - p.2.2.1, slots := b0.2 - p.2.2.2, locals := 136 }) ss mm [.ref (ad 1 0), .ref (ad 7 a1), .int a2, .int a3].toArray bb mt cd H locs (b0.1 - b.1) (b0.2 - b.2) (MQ bb (hp_Qi D vwCl (hp_Tl cA) sz (cd_pic cA ad ca0 σ0) (fun r u => r = p.1 ∧ ∃ ca1, cd_inj ad ca1 ∧ u = cd_pic cA ad ca1 p.2.1)) [.ref (ad 1 0), .ref (ad 7 a1), .int a2, .int a3].toArray ss (b0.1 - p.2.2.1) (b0.2 - p.2.2.2) (hp_A (cd_pic cA ad ca0 σ0) sz)) (F0 mm 55 ls []) := by
    intro ca hj σ b l2 l3 l4 H locs ls hb1 hb2 hf1 hf2 h hw hl
    refine lv_aload_n cx.1 cx.2.1 dX1_ask_55 rfl (lv_at hl 0 rfl) ?_
    refine cd_gO (o2 := 3) (e2 := 0) (o := 1) (k := 1) (f := 33) hj cx hw hic1 rfl ⟨by decide, rfl, by decide, rfl⟩ rfl (by decide) ⟨rfl, rfl⟩ (List.mem_cons_of_mem _ cm_340) dX1_ask_56 ?_
    refine lv_iload_n cx.1 cx.2.1 dX1_ask_59 rfl (lv_at hl 2 rfl) ?_
    obtain ⟨p11, e_p11, h⟩ := md_ob h
    refine hp_callVi (As := [.int l2]) (rest := []) cx hw (kc_X3_holdersOf l D cA E _ ad _ hj oq sgq sgv hE n σ l2 p11 e_p11) (cwV 1 cx.2.2.2.2.2.1 (cd_giV cm_349 cm_350 cm_351 cm_332 cm_352) rfl rfl rfl hdc_X3_holdersOf ⟨Nat.le_of_ble_eq_true rfl, Nat.le_of_ble_eq_true rfl⟩) (cd_atO hj (by decide) (by decide)) rfl rfl hl.1 rfl (Nat.le_of_ble_eq_true rfl) dX1_ask_60 ⟨by (try dsimp only); omega, by (try dsimp only); omega⟩ (fun r u H locs hp hw => ?_)
    obtain ⟨rfl, ca, hj, rfl⟩ := hp
    refine lv_istore (lv' := [(5, .int p11.1), (0, .ref (ad 1 0)), (1, .ref (ad 7 a1)), (2, .int l2), (3, .int l3), (4, .int l4)]) cx.1 cx.2.1 dX1_ask_63 hl (by decide) rfl (fun ls hl => ?_)
    refine lv_iload cx.1 cx.2.1 dX1_ask_65 (lv_at hl 5 rfl) ?_
    refine lv_iconst (v := (-1)) cx.1 cx.2.1 dX1_ask_67 (by decide) ?_
    refine lv_icmp_eq (tgt := 97) cx.1 cx.2.1 dX1_ask_68 (by decide) (fun c68 => ?_) (fun c68 => ?_)
    · have h := md_ip c68 h
      exact J97 _ hj p11.2 b l2 l3 l4 (p11.1) _ _ _ (by omega) (by omega) (by omega) (by omega) h hw (lv_sub hl [1, 2, 3, 4, 5, 0] rfl)
    · have h := md_in c68 h
      refine lv_aload_n cx.1 cx.2.1 dX1_ask_71 rfl (lv_at hl 1 rfl) ?_
      refine cd_gO (o2 := 3) (e2 := 0) (o := 1) (k := 1) (f := 33) hj cx hw hic1 rfl ⟨by decide, rfl, by decide, rfl⟩ rfl (by decide) ⟨rfl, rfl⟩ (List.mem_cons_of_mem _ cm_340) dX1_ask_72 ?_
      refine lv_iload_n cx.1 cx.2.1 dX1_ask_75 rfl (lv_at hl 3 rfl) ?_
      refine lv_iload cx.1 cx.2.1 dX1_ask_76 (lv_at hl 5 rfl) ?_
      obtain ⟨p12, e_p12, h⟩ := md_ob h
      refine hp_callVv (As := [.int l2, .int l4]) (rest := []) cx hw (kc_X3_aim l D cA E _ ad _ hj oq sgq sgv hE n p11.2 l2 l4 p12 e_p12) (cwV 2 cx.2.2.2.2.2.1 (cd_giV cm_353 cm_354 cm_355 cm_332 cm_356) rfl rfl rfl hdc_X3_aim ⟨Nat.le_of_ble_eq_true rfl, Nat.le_of_ble_eq_true rfl⟩) (cd_atO hj (by decide) (by decide)) rfl rfl hl.1 rfl (Nat.le_of_ble_eq_true rfl) dX1_ask_78 ⟨by (try dsimp only); omega, by (try dsimp only); omega⟩ (fun u H locs hp hw => ?_)
      obtain ⟨ca, hj, rfl⟩ := hp
      refine lv_aload_n cx.1 cx.2.1 dX1_ask_81 rfl (lv_at hl 1 rfl) ?_
      refine cd_gO (o2 := 3) (e2 := 0) (o := 1) (k := 1) (f := 33) hj cx hw hic1 rfl ⟨by decide, rfl, by decide, rfl⟩ rfl (by decide) ⟨rfl, rfl⟩ (List.mem_cons_of_mem _ cm_340) dX1_ask_82 ?_
      refine lv_aload_n cx.1 cx.2.1 dX1_ask_85 rfl (lv_at hl 1 rfl) ?_
      refine cd_gO (o2 := 3) (e2 := 0) (o := 1) (k := 1) (f := 33) hj cx hw hic1 rfl ⟨by decide, rfl, by decide, rfl⟩ rfl (by decide) ⟨rfl, rfl⟩ (List.mem_cons_of_mem _ cm_340) dX1_ask_86 ?_
      refine cd_gO (o2 := 5) (e2 := 192) (o := 3) (k := 9) (f := 105) hj cx hw hic3 rfl ⟨by decide, rfl, by decide, rfl⟩ rfl (by decide) ⟨rfl, rfl⟩ (List.mem_cons_of_mem _ cm_357) dX1_ask_89 ?_
      obtain ⟨p13, e_p13, h⟩ := md_ob h
      refine hp_callVi (As := [.ref (ad 5 192)]) (rest := []) cx hw (kc_X3_holders l D cA E _ ad _ hj oq sgq sgv hE n p12.2 192 (by decide) p13 e_p13) (cwV 1 cx.2.2.2.2.2.1 (cd_giV cm_358 cm_359 cm_360 cm_332 cm_361) rfl rfl rfl hdc_X3_holders ⟨Nat.le_of_ble_eq_true rfl, Nat.le_of_ble_eq_true rfl⟩) (cd_atO hj (by decide) (by decide)) rfl rfl hl.1 rfl (Nat.le_of_ble_eq_true rfl) dX1_ask_92 ⟨by (try dsimp only); omega, by (try dsimp only); omega⟩ (fun r u H locs hp hw => ?_)
      obtain ⟨rfl, ca, hj, rfl⟩ := hp
      refine lv_istore (lv' := [(5, .int p13.1), (0, .ref (ad 1 0)), (1, .ref (ad 7 a1)), (2, .int l2), (3, .int l3), (4, .int l4)]) cx.1 cx.2.1 dX1_ask_95 hl (by decide) rfl (fun ls hl => ?_)
      exact J97 _ hj p13.2 b l2 l3 l4 (p13.1) _ _ _ (by omega) (by omega) (by omega) (by omega) h hw (lv_sub hl [1, 2, 3, 4, 5, 0] rfl)
  have J49 : ∀ (ca : Nat → Nat) (hj : cd_inj ad ca) (σ : cd_S) (b : cd_B) (H : Heap) (locs : List Loc) (ls : Array Slot), b.1 ≤ b0.1 → b.2 ≤ b0.2 → p.2.2.1 ≤ b.1 → p.2.2.2 ≤ b.2 → f_X1_ask_J49 n a1 σ b = some p → hp_w D vwCl (hp_Tl cA) E (hp_A (cd_pic cA ad ca0 σ0) sz) ss H locs (cd_pic cA ad ca σ) → lv_has ls 8 [(1, .ref (ad 7 a1))] → W pp l ee ({ frames := 5, cells := b0.1 - p.2.2.1, slots := b0.2 - p.2.2.2, locals := 136 }) ss mm [.ref (ad 1 0), .ref (ad 7 a1), .int a2, .int a3].toArray bb mt cd H locs (b0.1 - b.1) (b0.2 - b.2) (MQ bb (hp_Qi D vwCl (hp_Tl cA) sz (cd_pic cA ad ca0 σ0) (fun r u => r = p.1 ∧ ∃ ca1, cd_inj ad ca1 ∧ u = cd_pic cA ad ca1 p.2.1)) [.ref (ad 1 0), .ref (ad 7 a1), .int a2, .int a3].toArray ss (b0.1 - p.2.2.1) (b0.2 - p.2.2.2) (hp_A (cd_pic cA ad ca0 σ0) sz)) (F0 mm 49 ls []) := by
    intro ca hj σ b H locs ls hb1 hb2 hf1 hf2 h hw hl
    refine lv_aload_n cx.1 cx.2.1 dX1_ask_49 rfl (lv_at hl 0 rfl) ?_
    refine lv_iconst (v := 5) cx.1 cx.2.1 dX1_ask_50 (by decide) ?_
    obtain ⟨p14, e_p14, h⟩ := md_ob h
    refine hp_callSi (As := [.ref (ad 7 a1), .int 5]) (rest := []) cx hw (kc_X1_fail l D cA E _ ad _ hj oq sgq sgv hE n σ a1 (5 : Int32) (show _ < 8 by omega) p14 e_p14) (cwS 2 cx.2.2.2.2.2.1 (cd_giS cm_132 cm_133 cm_130 cm_134) rfl rfl rfl hdc_X1_fail ⟨Nat.le_of_ble_eq_true rfl, Nat.le_of_ble_eq_true rfl⟩) rfl hl.1 rfl (Nat.le_of_ble_eq_true rfl) dX1_ask_51 ⟨by (try dsimp only); omega, by (try dsimp only); omega⟩ (fun r u H locs hp hw => ?_)
    obtain ⟨rfl, ca, hj, rfl⟩ := hp
    exact hp_iret cx hw (cd_retb hj h) dX1_ask_54 (cd_le1 h) (cd_le2 h)
  refine lv_iconst (v := (-1)) cx.1 cx.2.1 dX1_ask_0 (by decide) ?_
  refine lv_istore (lv' := [(4, .int (-1)), (0, .ref (ad 1 0)), (1, .ref (ad 7 a1)), (2, .int a2), (3, .int a3)]) cx.1 cx.2.1 dX1_ask_1 hl (by decide) rfl (fun ls hl => ?_)
  refine lv_aload_n cx.1 cx.2.1 dX1_ask_3 rfl (lv_at hl 1 rfl) ?_
  refine cd_gO (o2 := 3) (e2 := 0) (o := 1) (k := 1) (f := 33) hj cx hw hic1 rfl ⟨by decide, rfl, by decide, rfl⟩ rfl (by decide) ⟨rfl, rfl⟩ (List.mem_cons_of_mem _ cm_340) dX1_ask_4 ?_
  refine lv_iload_n cx.1 cx.2.1 dX1_ask_7 rfl (lv_at hl 3 rfl) ?_
  obtain ⟨p15, e_p15, h⟩ := md_ob h
  refine hp_callVi (As := [.int a2]) (rest := []) cx hw (kc_X3_isIndexed l D cA E _ ad _ hj oq sgq sgv hE n σ0 a2 p15 e_p15) (cwV 1 cx.2.2.2.2.2.1 (cd_giV cm_341 cm_342 cm_343 cm_332 cm_344) rfl rfl rfl hdc_X3_isIndexed ⟨Nat.le_of_ble_eq_true rfl, Nat.le_of_ble_eq_true rfl⟩) (cd_atO hj (by decide) (by decide)) rfl rfl hl.1 rfl (Nat.le_of_ble_eq_true rfl) dX1_ask_8 ⟨by (try dsimp only); omega, by (try dsimp only); omega⟩ (fun r u H locs hp hw => ?_)
  obtain ⟨rfl, ca, hj, rfl⟩ := hp
  refine lv_if_eq (tgt := 55) cx.1 cx.2.1 dX1_ask_11 (by decide) (fun c11 => ?_) (fun c11 => ?_)
  · have h := md_ip c11 h
    exact J55 _ hj p15.2 b0 a2 a3 ((-1)) _ _ _ (by omega) (by omega) (by omega) (by omega) h hw (lv_sub hl [1, 2, 3, 4, 0] rfl)
  · have h := md_in c11 h
    refine lv_aload_n cx.1 cx.2.1 dX1_ask_14 rfl (lv_at hl 2 rfl) ?_
    refine cd_gO (o2 := 6) (e2 := (9 + 1 * a1)) (o := 7) (k := 6) (f := 230) hj cx hw hic7 rfl ⟨by decide, rfl, by decide, rfl⟩ rfl (show _ < 8 by omega) ⟨rfl, rfl⟩ (List.mem_cons_of_mem _ cm_89) dX1_ask_15 ?_
    obtain ⟨p16, e_p16, h⟩ := md_ob h
    refine hp_callVl (As := []) (rest := []) cx hw (kc_X6_pop l D cA E _ ad _ hj oq sgq sgv hE n p15.2 ((9 + 1 * a1)) (show _ < 197 by omega) p16 e_p16) (cwV 0 cx.2.2.2.2.2.1 (cd_giV cm_345 cm_346 cm_347 cm_5 cm_348) rfl rfl rfl hdc_X6_pop ⟨Nat.le_of_ble_eq_true rfl, Nat.le_of_ble_eq_true rfl⟩) (cd_atO hj (by decide) (show _ < 197 by omega)) rfl rfl hl.1 rfl (Nat.le_of_ble_eq_true rfl) dX1_ask_18 ⟨by (try dsimp only); omega, by (try dsimp only); omega⟩ (fun r u H locs hp hw => ?_)
    obtain ⟨rfl, ca, hj, rfl⟩ := hp
    refine lv_lstore (lv' := [(5, .long p16.1), (4, .int (-1)), (0, .ref (ad 1 0)), (1, .ref (ad 7 a1)), (2, .int a2), (3, .int a3)]) cx.1 cx.2.1 dX1_ask_21 hl (by decide) rfl (fun ls hl => ?_)
    refine lv_lload cx.1 cx.2.1 dX1_ask_23 (lv_at hl 0 rfl) ?_
    refine lv_l2i (v := (p16.1.toInt32)) cx.1 cx.2.1 dX1_ask_25 rfl ?_
    refine lv_istore (lv' := [(4, .int (p16.1.toInt32)), (5, .long p16.1), (0, .ref (ad 1 0)), (1, .ref (ad 7 a1)), (2, .int a2), (3, .int a3)]) cx.1 cx.2.1 dX1_ask_26 hl (by decide) rfl (fun ls hl => ?_)
    refine lv_lload cx.1 cx.2.1 dX1_ask_28 (lv_at hl 1 rfl) ?_
    obtain ⟨p17, e_p17, h⟩ := md_ob h
    refine hp_callSi (As := [.long p16.1]) (rest := []) cx hw (kc_X1_sortOf l D cA E _ ad _ hj oq sgq sgv hE n p16.2 (p16.1) p17 e_p17) (cwS 1 cx.2.2.2.2.2.1 (cd_giS cm_279 cm_244 cm_130 cm_245) rfl rfl rfl hdc_X1_sortOf ⟨Nat.le_of_ble_eq_true rfl, Nat.le_of_ble_eq_true rfl⟩) rfl hl.1 rfl (Nat.le_of_ble_eq_true rfl) dX1_ask_30 ⟨by (try dsimp only); omega, by (try dsimp only); omega⟩ (fun r u H locs hp hw => ?_)
    obtain ⟨rfl, ca, hj, rfl⟩ := hp
    refine lv_if_ne (tgt := 49) cx.1 cx.2.1 dX1_ask_33 (by decide) (fun c33 => ?_) (fun c33 => ?_)
    · have h := md_in c33 h
      exact J49 _ hj p17.2 b0 _ _ _ (by omega) (by omega) (by omega) (by omega) h hw (lv_sub hl [3] rfl)
    · have h := md_ip c33 h
      refine lv_iload cx.1 cx.2.1 dX1_ask_36 (lv_at hl 0 rfl) ?_
      refine lv_if_lt (tgt := 49) cx.1 cx.2.1 dX1_ask_38 (by decide) (fun c38 => ?_) (fun c38 => ?_)
      · have h := md_ip c38 h
        exact J49 _ hj p17.2 b0 _ _ _ (by omega) (by omega) (by omega) (by omega) h hw (lv_sub hl [3] rfl)
      · have h := md_in c38 h
        refine lv_iload cx.1 cx.2.1 dX1_ask_41 (lv_at hl 0 rfl) ?_
        refine lv_sipush (v := 999) cx.1 cx.2.1 dX1_ask_43 (by decide) ?_
        refine lv_icmp_le (tgt := 55) cx.1 cx.2.1 dX1_ask_46 (by decide) (fun c46 => ?_) (fun c46 => ?_)
        · have h := md_ip c46 h
          exact J55 _ hj p17.2 b0 a2 a3 ((p16.1.toInt32)) _ _ _ (by omega) (by omega) (by omega) (by omega) h hw (lv_sub hl [2, 3, 4, 5, 0] rfl)
        · have h := md_in c46 h
          exact J49 _ hj p17.2 b0 _ _ _ (by omega) (by omega) (by omega) (by omega) h hw (lv_sub hl [3] rfl)
set_option maxHeartbeats 4000000 in
set_option maxRecDepth 100000 in
theorem kc_X1_takeOutcome (l : Launch) (D : va_G) (cA : Nat → ClassId) (E : hp_N) (sz : Nat) (ad : Nat → Nat → Nat) (ca0 : Nat → Nat) (hj : cd_inj ad ca0) (oq sgq sgv : Nat) (hE : cd_E E oq sgq sgv) (n : Nat) (σ0 : cd_S) (b0 : cd_B) (a1 : Nat) (a2 : Nat) (hb_a1 : a1 < 8) (hb_a2 : a2 < 8) (p : (Int32 × cd_S × cd_B)) (h : f_X1_takeOutcome n σ0 b0 a1 a2 = some p) : (p.2.2.1 ≤ b0.1 ∧ p.2.2.2 ≤ b0.2) ∧ Met l yX1_takeOutcome (Cond.code yX1_takeOutcome cX1_takeOutcome 3 (some .int) :: v_CLS) ({ frames := 5, cells := b0.1 - p.2.2.1, slots := b0.2 - p.2.2.2, locals := 133 }) (hp_Pc D vwCl (hp_Tl cA) E sz (cd_pic cA ad ca0 σ0) [.ref (ad 1 0), .ref (ad 7 a1), .ref (ad 7 a2)]) (hp_Qi D vwCl (hp_Tl cA) sz (cd_pic cA ad ca0 σ0) (fun r u => r = p.1 ∧ ∃ ca1, cd_inj ad ca1 ∧ u = cd_pic cA ad ca1 p.2.1)) (b0.1 - p.2.2.1) (b0.2 - p.2.2.2) (hp_A (cd_pic cA ad ca0 σ0) sz) := by
  obtain ⟨hm0, hn0, h⟩ := cd_cks h
  have hM0 : p.2.2.1 ≤ b0.1 ∧ p.2.2.2 ≤ b0.2 := ⟨hm0, hn0⟩
  refine ⟨hM0, ?_⟩
  refine hp_ofW (cc := cX1_takeOutcome) (maxL := 3) (ret := (some .int)) (by decide) rfl (Nat.le_of_ble_eq_true rfl) ?_
  intro pp ee ss mm bb mt cd ls cx hsz hw hl
  have hl : lv_has ls 3 [(0, .ref (ad 1 0)), (1, .ref (ad 7 a1)), (2, .ref (ad 7 a2))] := hl
  refine W.widen (k := b0.1 - b0.1) (n := b0.2 - b0.2) (Nat.zero_le _) (Nat.zero_le _) ?_
  refine lv_aload_n cx.1 cx.2.1 dX1_takeOutcome_0 rfl (lv_at hl 2 rfl) ?_
  refine cd_gI (o := 7) (k := 10) (f := 234) hj cx hw hic7 rfl ⟨by decide, rfl, by decide, rfl⟩ rfl (show _ < 8 by omega) (List.mem_cons_of_mem _ cm_223) dX1_takeOutcome_1 ?_
  refine lv_iconst (v := 2) cx.1 cx.2.1 dX1_takeOutcome_4 (by decide) ?_
  refine lv_icmp_ne (tgt := 18) cx.1 cx.2.1 dX1_takeOutcome_5 (by decide) (fun c5 => ?_) (fun c5 => ?_)
  · have h := md_in c5 h
    refine lv_aload_n cx.1 cx.2.1 dX1_takeOutcome_18 rfl (lv_at hl 1 rfl) ?_
    refine lv_aload_n cx.1 cx.2.1 dX1_takeOutcome_19 rfl (lv_at hl 2 rfl) ?_
    refine cd_gJ (o := 7) (k := 12) (f := 236) hj cx hw hic7 rfl ⟨by decide, rfl, by decide, rfl⟩ rfl (show _ < 8 by omega) (List.mem_cons_of_mem _ cm_370) dX1_takeOutcome_20 ?_
    obtain ⟨p1, e_p1, h⟩ := md_ob h
    obtain ⟨hm2, hn2, h⟩ := cd_cks h
    have hM2 : p.2.2.1 ≤ p1.2.2.1 ∧ p.2.2.2 ≤ p1.2.2.2 := ⟨hm2, hn2⟩
    have hle1 := (kc_X1_push l D cA E sz ad _ hj oq sgq sgv hE n σ0 b0 a1 ((cJ σ0 236 a2)) (show _ < 8 by omega) p1 e_p1).1
    refine hp_callSi (As := [.ref (ad 7 a1), .long (cJ σ0 236 a2)]) (rest := []) cx hw ((kc_X1_push l D cA E _ ad _ hj oq sgq sgv hE n σ0 b0 a1 ((cJ σ0 236 a2)) (show _ < 8 by omega) p1 e_p1).2) (cwS 2 cx.2.2.2.2.2.1 (cd_giS cm_157 cm_158 cm_130 cm_159) rfl rfl rfl hdc_X1_push ⟨Nat.le_of_ble_eq_true rfl, Nat.le_of_ble_eq_true rfl⟩) rfl hl.1 rfl (Nat.le_of_ble_eq_true rfl) dX1_takeOutcome_23 ⟨by (try dsimp only); omega, by (try dsimp only); omega⟩ (fun r u H locs hp hw => ?_)
    obtain ⟨rfl, ca, hj, rfl⟩ := hp
    refine W.widen (k := b0.1 - p1.2.2.1) (n := b0.2 - p1.2.2.2) (by omega) (by omega) ?_
    exact hp_iret cx hw (cd_retb hj h) dX1_takeOutcome_26 (cd_le1 h) (cd_le2 h)
  · have h := md_ip c5 h
    refine lv_aload_n cx.1 cx.2.1 dX1_takeOutcome_8 rfl (lv_at hl 1 rfl) ?_
    refine lv_aload_n cx.1 cx.2.1 dX1_takeOutcome_9 rfl (lv_at hl 2 rfl) ?_
    refine cd_gJ (o := 7) (k := 12) (f := 236) hj cx hw hic7 rfl ⟨by decide, rfl, by decide, rfl⟩ rfl (show _ < 8 by omega) (List.mem_cons_of_mem _ cm_370) dX1_takeOutcome_10 ?_
    refine lv_l2i (v := ((cJ σ0 236 a2).toInt32)) cx.1 cx.2.1 dX1_takeOutcome_13 rfl ?_
    obtain ⟨p3, e_p3, h⟩ := md_ob h
    refine hp_callSi (As := [.ref (ad 7 a1), .int ((cJ σ0 236 a2).toInt32)]) (rest := []) cx hw (kc_X1_fail l D cA E _ ad _ hj oq sgq sgv hE n σ0 a1 (((cJ σ0 236 a2).toInt32)) (show _ < 8 by omega) p3 e_p3) (cwS 2 cx.2.2.2.2.2.1 (cd_giS cm_132 cm_133 cm_130 cm_134) rfl rfl rfl hdc_X1_fail ⟨Nat.le_of_ble_eq_true rfl, Nat.le_of_ble_eq_true rfl⟩) rfl hl.1 rfl (Nat.le_of_ble_eq_true rfl) dX1_takeOutcome_14 ⟨by (try dsimp only); omega, by (try dsimp only); omega⟩ (fun r u H locs hp hw => ?_)
    obtain ⟨rfl, ca, hj, rfl⟩ := hp
    exact hp_iret cx hw (cd_retb hj h) dX1_takeOutcome_17 (cd_le1 h) (cd_le2 h)
set_option maxHeartbeats 4000000 in
set_option maxRecDepth 100000 in
theorem kc_X1_await (l : Launch) (D : va_G) (cA : Nat → ClassId) (E : hp_N) (sz : Nat) (ad : Nat → Nat → Nat) (ca0 : Nat → Nat) (hj : cd_inj ad ca0) (oq sgq sgv : Nat) (hE : cd_E E oq sgq sgv) (n : Nat) (σ0 : cd_S) (b0 : cd_B) (a1 : Nat) (hb_a1 : a1 < 8) (p : (Int32 × cd_S × cd_B)) (h : f_X1_await n σ0 b0 a1 = some p) : (p.2.2.1 ≤ b0.1 ∧ p.2.2.2 ≤ b0.2) ∧ Met l yX1_await (Cond.code yX1_await cX1_await 5 (some .int) :: v_CLS) ({ frames := 6, cells := b0.1 - p.2.2.1, slots := b0.2 - p.2.2.2, locals := 155 }) (hp_Pc D vwCl (hp_Tl cA) E sz (cd_pic cA ad ca0 σ0) [.ref (ad 1 0), .ref (ad 7 a1)]) (hp_Qi D vwCl (hp_Tl cA) sz (cd_pic cA ad ca0 σ0) (fun r u => r = p.1 ∧ ∃ ca1, cd_inj ad ca1 ∧ u = cd_pic cA ad ca1 p.2.1)) (b0.1 - p.2.2.1) (b0.2 - p.2.2.2) (hp_A (cd_pic cA ad ca0 σ0) sz) := by
  obtain ⟨hm0, hn0, h⟩ := cd_cks h
  have hM0 : p.2.2.1 ≤ b0.1 ∧ p.2.2.2 ≤ b0.2 := ⟨hm0, hn0⟩
  refine ⟨hM0, ?_⟩
  refine hp_ofW (cc := cX1_await) (maxL := 5) (ret := (some .int)) (by decide) rfl (Nat.le_of_ble_eq_true rfl) ?_
  intro pp ee ss mm bb mt cd ls cx hsz hw hl
  have hl : lv_has ls 5 [(0, .ref (ad 1 0)), (1, .ref (ad 7 a1))] := hl
  refine W.widen (k := b0.1 - b0.1) (n := b0.2 - b0.2) (Nat.zero_le _) (Nat.zero_le _) ?_
  have J48 : ∀ (ca : Nat → Nat) (hj : cd_inj ad ca) (σ : cd_S) (b : cd_B) (H : Heap) (locs : List Loc) (ls : Array Slot), b.1 ≤ b0.1 → b.2 ≤ b0.2 → p.2.2.1 ≤ b.1 → p.2.2.2 ≤ b.2 → f_X1_await_J48 n a1 σ b = some p → hp_w D vwCl (hp_Tl cA) E (hp_A (cd_pic cA ad ca0 σ0) sz) ss H locs (cd_pic cA ad ca σ) → lv_has ls 5 [(1, .ref (ad 7 a1))] → W pp l ee ({ frames := 6, cells := b0.1 - p.2.2.1, slots := b0.2 - p.2.2.2, locals := 155 }) ss mm [.ref (ad 1 0), .ref (ad 7 a1)].toArray bb mt cd H locs (b0.1 - b.1) (b0.2 - b.2) (MQ bb (hp_Qi D vwCl (hp_Tl cA) sz (cd_pic cA ad ca0 σ0) (fun r u => r = p.1 ∧ ∃ ca1, cd_inj ad ca1 ∧ u = cd_pic cA ad ca1 p.2.1)) [.ref (ad 1 0), .ref (ad 7 a1)].toArray ss (b0.1 - p.2.2.1) (b0.2 - p.2.2.2) (hp_A (cd_pic cA ad ca0 σ0) sz)) (F0 mm 48 ls []) := by
    intro ca hj σ b H locs ls hb1 hb2 hf1 hf2 h hw hl
    refine lv_aload_n cx.1 cx.2.1 dX1_await_48 rfl (lv_at hl 0 rfl) ?_
    refine lv_bipush (v := 8) cx.1 cx.2.1 dX1_await_49 (by decide) ?_
    obtain ⟨p1, e_p1, h⟩ := md_ob h
    refine hp_callSi (As := [.ref (ad 7 a1), .int 8]) (rest := []) cx hw (kc_X1_fail l D cA E _ ad _ hj oq sgq sgv hE n σ a1 (8 : Int32) (show _ < 8 by omega) p1 e_p1) (cwS 2 cx.2.2.2.2.2.1 (cd_giS cm_132 cm_133 cm_130 cm_134) rfl rfl rfl hdc_X1_fail ⟨Nat.le_of_ble_eq_true rfl, Nat.le_of_ble_eq_true rfl⟩) rfl hl.1 rfl (Nat.le_of_ble_eq_true rfl) dX1_await_51 ⟨by (try dsimp only); omega, by (try dsimp only); omega⟩ (fun r u H locs hp hw => ?_)
    obtain ⟨rfl, ca, hj, rfl⟩ := hp
    exact hp_iret cx hw (cd_retb hj h) dX1_await_54 (cd_le1 h) (cd_le2 h)
  refine lv_aload_n cx.1 cx.2.1 dX1_await_0 rfl (lv_at hl 1 rfl) ?_
  refine cd_gO (o2 := 6) (e2 := (9 + 1 * a1)) (o := 7) (k := 6) (f := 230) hj cx hw hic7 rfl ⟨by decide, rfl, by decide, rfl⟩ rfl (show _ < 8 by omega) ⟨rfl, rfl⟩ (List.mem_cons_of_mem _ cm_89) dX1_await_1 ?_
  obtain ⟨p2, e_p2, h⟩ := md_ob h
  refine hp_callVl (As := []) (rest := []) cx hw (kc_X6_pop l D cA E _ ad _ hj oq sgq sgv hE n σ0 ((9 + 1 * a1)) (show _ < 197 by omega) p2 e_p2) (cwV 0 cx.2.2.2.2.2.1 (cd_giV cm_345 cm_346 cm_347 cm_5 cm_348) rfl rfl rfl hdc_X6_pop ⟨Nat.le_of_ble_eq_true rfl, Nat.le_of_ble_eq_true rfl⟩) (cd_atO hj (by decide) (show _ < 197 by omega)) rfl rfl hl.1 rfl (Nat.le_of_ble_eq_true rfl) dX1_await_4 ⟨by (try dsimp only); omega, by (try dsimp only); omega⟩ (fun r u H locs hp hw => ?_)
  obtain ⟨rfl, ca, hj, rfl⟩ := hp
  refine lv_lstore_n (lv' := [(2, .long p2.1), (0, .ref (ad 1 0)), (1, .ref (ad 7 a1))]) cx.1 cx.2.1 dX1_await_7 rfl hl (by decide) rfl (fun ls hl => ?_)
  refine lv_lload_n cx.1 cx.2.1 dX1_await_8 rfl (lv_at hl 0 rfl) ?_
  obtain ⟨p3, e_p3, h⟩ := md_ob h
  refine hp_callSi (As := [.long p2.1]) (rest := []) cx hw (kc_X1_sortOf l D cA E _ ad _ hj oq sgq sgv hE n p2.2 (p2.1) p3 e_p3) (cwS 1 cx.2.2.2.2.2.1 (cd_giS cm_279 cm_244 cm_130 cm_245) rfl rfl rfl hdc_X1_sortOf ⟨Nat.le_of_ble_eq_true rfl, Nat.le_of_ble_eq_true rfl⟩) rfl hl.1 rfl (Nat.le_of_ble_eq_true rfl) dX1_await_9 ⟨by (try dsimp only); omega, by (try dsimp only); omega⟩ (fun r u H locs hp hw => ?_)
  obtain ⟨rfl, ca, hj, rfl⟩ := hp
  refine lv_if_eq (tgt := 21) cx.1 cx.2.1 dX1_await_12 (by decide) (fun c12 => ?_) (fun c12 => ?_)
  · have h := md_ip c12 h
    refine lv_lload_n cx.1 cx.2.1 dX1_await_21 rfl (lv_at hl 0 rfl) ?_
    refine lv_l2i (v := (p2.1.toInt32)) cx.1 cx.2.1 dX1_await_22 rfl ?_
    refine lv_istore (lv' := [(4, .int (p2.1.toInt32)), (2, .long p2.1), (0, .ref (ad 1 0)), (1, .ref (ad 7 a1))]) cx.1 cx.2.1 dX1_await_23 hl (by decide) rfl (fun ls hl => ?_)
    refine lv_iload cx.1 cx.2.1 dX1_await_25 (lv_at hl 0 rfl) ?_
    refine lv_if_lt (tgt := 48) cx.1 cx.2.1 dX1_await_27 (by decide) (fun c27 => ?_) (fun c27 => ?_)
    · have h := md_ip c27 h
      exact J48 _ hj p3.2 b0 _ _ _ (by omega) (by omega) (by omega) (by omega) h hw (lv_sub hl [3] rfl)
    · have h := md_in c27 h
      refine lv_iload cx.1 cx.2.1 dX1_await_30 (lv_at hl 0 rfl) ?_
      refine lv_aload_n cx.1 cx.2.1 dX1_await_32 rfl (lv_at hl 2 rfl) ?_
      refine cd_gI (o := 1) (k := 8) (f := 40) hj cx hw hic1 rfl ⟨by decide, rfl, by decide, rfl⟩ rfl (by decide) (List.mem_cons_of_mem _ cm_153) dX1_await_33 ?_
      refine lv_icmp_ge (tgt := 48) cx.1 cx.2.1 dX1_await_36 (by decide) (fun c36 => ?_) (fun c36 => ?_)
      · have h := md_ip c36 h
        exact J48 _ hj p3.2 b0 _ _ _ (by omega) (by omega) (by omega) (by omega) h hw (lv_sub hl [3] rfl)
      · have h := md_in c36 h
        refine lv_iload cx.1 cx.2.1 dX1_await_39 (lv_at hl 0 rfl) ?_
        refine lv_aload_n cx.1 cx.2.1 dX1_await_41 rfl (lv_at hl 3 rfl) ?_
        refine cd_gI (o := 7) (k := 7) (f := 231) hj cx hw hic7 rfl ⟨by decide, rfl, by decide, rfl⟩ rfl (show _ < 8 by omega) (List.mem_cons_of_mem _ cm_234) dX1_await_42 ?_
        refine lv_icmp_ne (tgt := 55) cx.1 cx.2.1 dX1_await_45 (by decide) (fun c45 => ?_) (fun c45 => ?_)
        · have h := md_in c45 h
          refine lv_aload_n cx.1 cx.2.1 dX1_await_55 rfl (lv_at hl 2 rfl) ?_
          refine lv_iload cx.1 cx.2.1 dX1_await_56 (lv_at hl 0 rfl) ?_
          obtain ⟨p4, e_p4, h⟩ := md_ob h
          refine hp_callVi (As := [.int (p2.1.toInt32)]) (rest := []) cx hw (kc_X1_hasEnded l D cA E _ ad _ hj oq sgq sgv hE n p3.2 ((p2.1.toInt32)) p4 e_p4) (cwV 1 cx.2.2.2.2.2.1 (cd_giV cm_224 cm_225 cm_226 cm_130 cm_227) rfl rfl rfl hdc_X1_hasEnded ⟨Nat.le_of_ble_eq_true rfl, Nat.le_of_ble_eq_true rfl⟩) (cd_atO hj (by decide) (by decide)) rfl rfl hl.1 rfl (Nat.le_of_ble_eq_true rfl) dX1_await_58 ⟨by (try dsimp only); omega, by (try dsimp only); omega⟩ (fun r u H locs hp hw => ?_)
          obtain ⟨rfl, ca, hj, rfl⟩ := hp
          refine lv_if_eq (tgt := 76) cx.1 cx.2.1 dX1_await_61 (by decide) (fun c61 => ?_) (fun c61 => ?_)
          · have h := md_ip c61 h
            refine lv_aload_n cx.1 cx.2.1 dX1_await_76 rfl (lv_at hl 3 rfl) ?_
            refine lv_iload cx.1 cx.2.1 dX1_await_77 (lv_at hl 0 rfl) ?_
            obtain ⟨σ5, e_σ5, h⟩ := md_ob h
            refine cd_pI (o := 7) (k := 11) (f := 235) hj cx hw hic7 rfl ⟨by decide, rfl, by decide, rfl⟩ tyX7_ok nmX7 rfl (show _ < 8 by omega) rfl (List.mem_cons_of_mem _ cm_228) rfl e_σ5 dX1_await_79 (fun H locs hw => ?_)
            refine lv_iconst (v := 1) cx.1 cx.2.1 dX1_await_82 (by decide) ?_
            exact hp_iret cx hw (cd_retb hj h) dX1_await_83 (cd_le1 h) (cd_le2 h)
          · have h := md_in c61 h
            refine lv_aload_n cx.1 cx.2.1 dX1_await_64 rfl (lv_at hl 2 rfl) ?_
            refine lv_aload_n cx.1 cx.2.1 dX1_await_65 rfl (lv_at hl 3 rfl) ?_
            refine lv_aload_n cx.1 cx.2.1 dX1_await_66 rfl (lv_at hl 2 rfl) ?_
            refine lv_iload cx.1 cx.2.1 dX1_await_67 (lv_at hl 0 rfl) ?_
            obtain ⟨p6, e_p6, h⟩ := md_ob h
            refine hp_callVr (As := [.int (p2.1.toInt32)]) (rest := [.ref (ad 7 a1), .ref (ad 1 0)]) cx hw (kc_X1_strandAt l D cA E _ ad _ hj oq sgq sgv hE n p4.2 ((p2.1.toInt32)) p6 e_p6) (cwV 1 cx.2.2.2.2.2.1 (cd_giV cm_219 cm_220 cm_221 cm_130 cm_222) rfl rfl rfl hdc_X1_strandAt ⟨Nat.le_of_ble_eq_true rfl, Nat.le_of_ble_eq_true rfl⟩) (cd_atO hj (by decide) (by decide)) rfl rfl hl.1 rfl (Nat.le_of_ble_eq_true rfl) dX1_await_69 ⟨by (try dsimp only); omega, by (try dsimp only); omega⟩ (fun r u H locs hp hw => ?_)
            obtain ⟨⟨hb_p6, rfl⟩, ca, hj, rfl⟩ := hp
            obtain ⟨p7, e_p7, h⟩ := md_ob h
            obtain ⟨hm8, hn8, h⟩ := cd_cks h
            have hM8 : p.2.2.1 ≤ p7.2.2.1 ∧ p.2.2.2 ≤ p7.2.2.2 := ⟨hm8, hn8⟩
            have hle7 := (kc_X1_takeOutcome l D cA E sz ad _ hj oq sgq sgv hE n p6.2 b0 a1 (p6.1) (show _ < 8 by omega) (show _ < 8 by omega) p7 e_p7).1
            refine hp_callVi (As := [.ref (ad 7 a1), .ref (ad 7 p6.1)]) (rest := []) cx hw ((kc_X1_takeOutcome l D cA E _ ad _ hj oq sgq sgv hE n p6.2 b0 a1 (p6.1) (show _ < 8 by omega) (show _ < 8 by omega) p7 e_p7).2) (cwV 2 cx.2.2.2.2.2.1 (cd_giV cm_371 cm_372 cm_373 cm_130 cm_374) rfl rfl rfl hdc_X1_takeOutcome ⟨Nat.le_of_ble_eq_true rfl, Nat.le_of_ble_eq_true rfl⟩) (cd_atO hj (by decide) (by decide)) rfl rfl hl.1 rfl (Nat.le_of_ble_eq_true rfl) dX1_await_72 ⟨by (try dsimp only); omega, by (try dsimp only); omega⟩ (fun r u H locs hp hw => ?_)
            obtain ⟨rfl, ca, hj, rfl⟩ := hp
            refine W.widen (k := b0.1 - p7.2.2.1) (n := b0.2 - p7.2.2.2) (by omega) (by omega) ?_
            exact hp_iret cx hw (cd_retb hj h) dX1_await_75 (cd_le1 h) (cd_le2 h)
        · have h := md_ip c45 h
          exact J48 _ hj p3.2 b0 _ _ _ (by omega) (by omega) (by omega) (by omega) h hw (lv_sub hl [3] rfl)
  · have h := md_in c12 h
    refine lv_aload_n cx.1 cx.2.1 dX1_await_15 rfl (lv_at hl 2 rfl) ?_
    refine lv_iconst (v := 5) cx.1 cx.2.1 dX1_await_16 (by decide) ?_
    obtain ⟨p9, e_p9, h⟩ := md_ob h
    refine hp_callSi (As := [.ref (ad 7 a1), .int 5]) (rest := []) cx hw (kc_X1_fail l D cA E _ ad _ hj oq sgq sgv hE n p3.2 a1 (5 : Int32) (show _ < 8 by omega) p9 e_p9) (cwS 2 cx.2.2.2.2.2.1 (cd_giS cm_132 cm_133 cm_130 cm_134) rfl rfl rfl hdc_X1_fail ⟨Nat.le_of_ble_eq_true rfl, Nat.le_of_ble_eq_true rfl⟩) rfl hl.1 rfl (Nat.le_of_ble_eq_true rfl) dX1_await_17 ⟨by (try dsimp only); omega, by (try dsimp only); omega⟩ (fun r u H locs hp hw => ?_)
    obtain ⟨rfl, ca, hj, rfl⟩ := hp
    exact hp_iret cx hw (cd_retb hj h) dX1_await_20 (cd_le1 h) (cd_le2 h)
set_option maxHeartbeats 4000000 in
set_option maxRecDepth 100000 in
theorem kc_X1_back (l : Launch) (D : va_G) (cA : Nat → ClassId) (E : hp_N) (sz : Nat) (ad : Nat → Nat → Nat) (ca0 : Nat → Nat) (hj : cd_inj ad ca0) (oq sgq sgv : Nat) (hE : cd_E E oq sgq sgv) (n : Nat) (σ0 : cd_S) (b0 : cd_B) (a1 : Nat) (hb_a1 : a1 < 8) (p : (Int32 × cd_S × cd_B)) (h : f_X1_back n σ0 b0 a1 = some p) : (p.2.2.1 ≤ b0.1 ∧ p.2.2.2 ≤ b0.2) ∧ Met l yX1_back (Cond.code yX1_back cX1_back 4 (some .int) :: v_CLS) ({ frames := 5, cells := b0.1 - p.2.2.1, slots := b0.2 - p.2.2.2, locals := 133 }) (hp_Pc D vwCl (hp_Tl cA) E sz (cd_pic cA ad ca0 σ0) [.ref (ad 1 0), .ref (ad 7 a1)]) (hp_Qi D vwCl (hp_Tl cA) sz (cd_pic cA ad ca0 σ0) (fun r u => r = p.1 ∧ ∃ ca1, cd_inj ad ca1 ∧ u = cd_pic cA ad ca1 p.2.1)) (b0.1 - p.2.2.1) (b0.2 - p.2.2.2) (hp_A (cd_pic cA ad ca0 σ0) sz) := by
  obtain ⟨hm0, hn0, h⟩ := cd_cks h
  have hM0 : p.2.2.1 ≤ b0.1 ∧ p.2.2.2 ≤ b0.2 := ⟨hm0, hn0⟩
  refine ⟨hM0, ?_⟩
  refine hp_ofW (cc := cX1_back) (maxL := 4) (ret := (some .int)) (by decide) rfl (Nat.le_of_ble_eq_true rfl) ?_
  intro pp ee ss mm bb mt cd ls cx hsz hw hl
  have hl : lv_has ls 4 [(0, .ref (ad 1 0)), (1, .ref (ad 7 a1))] := hl
  refine W.widen (k := b0.1 - b0.1) (n := b0.2 - b0.2) (Nat.zero_le _) (Nat.zero_le _) ?_
  refine lv_aload_n cx.1 cx.2.1 dX1_back_0 rfl (lv_at hl 1 rfl) ?_
  refine cd_gO (o2 := 6) (e2 := (9 + 1 * a1)) (o := 7) (k := 6) (f := 230) hj cx hw hic7 rfl ⟨by decide, rfl, by decide, rfl⟩ rfl (show _ < 8 by omega) ⟨rfl, rfl⟩ (List.mem_cons_of_mem _ cm_89) dX1_back_1 ?_
  obtain ⟨p1, e_p1, h⟩ := md_ob h
  refine hp_callVl (As := []) (rest := []) cx hw (kc_X6_pop l D cA E _ ad _ hj oq sgq sgv hE n σ0 ((9 + 1 * a1)) (show _ < 197 by omega) p1 e_p1) (cwV 0 cx.2.2.2.2.2.1 (cd_giV cm_345 cm_346 cm_347 cm_5 cm_348) rfl rfl rfl hdc_X6_pop ⟨Nat.le_of_ble_eq_true rfl, Nat.le_of_ble_eq_true rfl⟩) (cd_atO hj (by decide) (show _ < 197 by omega)) rfl rfl hl.1 rfl (Nat.le_of_ble_eq_true rfl) dX1_back_4 ⟨by (try dsimp only); omega, by (try dsimp only); omega⟩ (fun r u H locs hp hw => ?_)
  obtain ⟨rfl, ca, hj, rfl⟩ := hp
  refine lv_lstore_n (lv' := [(2, .long p1.1), (0, .ref (ad 1 0)), (1, .ref (ad 7 a1))]) cx.1 cx.2.1 dX1_back_7 rfl hl (by decide) rfl (fun ls hl => ?_)
  refine lv_aload_n cx.1 cx.2.1 dX1_back_8 rfl (lv_at hl 2 rfl) ?_
  obtain ⟨p2, e_p2, h⟩ := md_ob h
  refine hp_callVv (As := []) (rest := []) cx hw (kc_X7_leave l D cA E _ ad _ hj oq sgq sgv hE n p1.2 a1 (show _ < 8 by omega) p2 e_p2) (cwV 0 cx.2.2.2.2.2.1 (cd_giV cm_251 cm_252 cm_253 cm_94 cm_254) rfl rfl rfl hdc_X7_leave ⟨Nat.le_of_ble_eq_true rfl, Nat.le_of_ble_eq_true rfl⟩) (cd_atO hj (by decide) (show _ < 8 by omega)) rfl rfl hl.1 rfl (Nat.le_of_ble_eq_true rfl) dX1_back_9 ⟨by (try dsimp only); omega, by (try dsimp only); omega⟩ (fun u H locs hp hw => ?_)
  obtain ⟨ca, hj, rfl⟩ := hp
  refine lv_aload_n cx.1 cx.2.1 dX1_back_12 rfl (lv_at hl 2 rfl) ?_
  refine cd_gI (o := 7) (k := 8) (f := 232) hj cx hw hic7 rfl ⟨by decide, rfl, by decide, rfl⟩ rfl (show _ < 8 by omega) (List.mem_cons_of_mem _ cm_121) dX1_back_13 ?_
  refine lv_if_le (tgt := 25) cx.1 cx.2.1 dX1_back_16 (by decide) (fun c16 => ?_) (fun c16 => ?_)
  · have h := md_ip c16 h
    refine lv_aload_n cx.1 cx.2.1 dX1_back_25 rfl (lv_at hl 2 rfl) ?_
    refine lv_iconst (v := 1) cx.1 cx.2.1 dX1_back_26 (by decide) ?_
    refine lv_lload_n cx.1 cx.2.1 dX1_back_27 rfl (lv_at hl 0 rfl) ?_
    obtain ⟨p3, e_p3, h⟩ := md_ob h
    refine hp_callVv (As := [.int 1, .long p1.1]) (rest := []) cx hw (kc_X7_finish l D cA E _ ad _ hj oq sgq sgv hE n p2.2 a1 (1 : Int32) (p1.1) (show _ < 8 by omega) p3 e_p3) (cwV 2 cx.2.2.2.2.2.1 (cd_giV cm_259 cm_260 cm_261 cm_94 cm_262) rfl rfl rfl hdc_X7_finish ⟨Nat.le_of_ble_eq_true rfl, Nat.le_of_ble_eq_true rfl⟩) (cd_atO hj (by decide) (show _ < 8 by omega)) rfl rfl hl.1 rfl (Nat.le_of_ble_eq_true rfl) dX1_back_28 ⟨by (try dsimp only); omega, by (try dsimp only); omega⟩ (fun u H locs hp hw => ?_)
    obtain ⟨ca, hj, rfl⟩ := hp
    refine lv_iconst (v := 1) cx.1 cx.2.1 dX1_back_31 (by decide) ?_
    exact hp_iret cx hw (cd_retb hj h) dX1_back_32 (cd_le1 h) (cd_le2 h)
  · have h := md_in c16 h
    refine lv_aload_n cx.1 cx.2.1 dX1_back_19 rfl (lv_at hl 2 rfl) ?_
    refine lv_lload_n cx.1 cx.2.1 dX1_back_20 rfl (lv_at hl 0 rfl) ?_
    obtain ⟨p4, e_p4, h⟩ := md_ob h
    obtain ⟨hm5, hn5, h⟩ := cd_cks h
    have hM5 : p.2.2.1 ≤ p4.2.2.1 ∧ p.2.2.2 ≤ p4.2.2.2 := ⟨hm5, hn5⟩
    have hle4 := (kc_X1_push l D cA E sz ad _ hj oq sgq sgv hE n p2.2 b0 a1 (p1.1) (show _ < 8 by omega) p4 e_p4).1
    refine hp_callSi (As := [.ref (ad 7 a1), .long p1.1]) (rest := []) cx hw ((kc_X1_push l D cA E _ ad _ hj oq sgq sgv hE n p2.2 b0 a1 (p1.1) (show _ < 8 by omega) p4 e_p4).2) (cwS 2 cx.2.2.2.2.2.1 (cd_giS cm_157 cm_158 cm_130 cm_159) rfl rfl rfl hdc_X1_push ⟨Nat.le_of_ble_eq_true rfl, Nat.le_of_ble_eq_true rfl⟩) rfl hl.1 rfl (Nat.le_of_ble_eq_true rfl) dX1_back_21 ⟨by (try dsimp only); omega, by (try dsimp only); omega⟩ (fun r u H locs hp hw => ?_)
    obtain ⟨rfl, ca, hj, rfl⟩ := hp
    refine W.widen (k := b0.1 - p4.2.2.1) (n := b0.2 - p4.2.2.2) (by omega) (by omega) ?_
    exact hp_iret cx hw (cd_retb hj h) dX1_back_24 (cd_le1 h) (cd_le2 h)
set_option maxHeartbeats 4000000 in
set_option maxRecDepth 100000 in
theorem kc_X1_calculate (l : Launch) (D : va_G) (cA : Nat → ClassId) (E : hp_N) (sz : Nat) (ad : Nat → Nat → Nat) (ca0 : Nat → Nat) (hj : cd_inj ad ca0) (oq sgq sgv : Nat) (hE : cd_E E oq sgq sgv) (n : Nat) (σ0 : cd_S) (b0 : cd_B) (a1 : Nat) (a2 : Int32) (hb_a1 : a1 < 8) (p : (Int32 × cd_S × cd_B)) (h : f_X1_calculate n σ0 b0 a1 a2 = some p) : (p.2.2.1 ≤ b0.1 ∧ p.2.2.2 ≤ b0.2) ∧ Met l yX1_calculate (Cond.code yX1_calculate cX1_calculate 9 (some .int) :: v_CLS) ({ frames := 5, cells := b0.1 - p.2.2.1, slots := b0.2 - p.2.2.2, locals := 133 }) (hp_Pc D vwCl (hp_Tl cA) E sz (cd_pic cA ad ca0 σ0) [.ref (ad 1 0), .ref (ad 7 a1), .int a2]) (hp_Qi D vwCl (hp_Tl cA) sz (cd_pic cA ad ca0 σ0) (fun r u => r = p.1 ∧ ∃ ca1, cd_inj ad ca1 ∧ u = cd_pic cA ad ca1 p.2.1)) (b0.1 - p.2.2.1) (b0.2 - p.2.2.2) (hp_A (cd_pic cA ad ca0 σ0) sz) := by
  obtain ⟨hm0, hn0, h⟩ := cd_cks h
  have hM0 : p.2.2.1 ≤ b0.1 ∧ p.2.2.2 ≤ b0.2 := ⟨hm0, hn0⟩
  refine ⟨hM0, ?_⟩
  refine hp_ofW (cc := cX1_calculate) (maxL := 9) (ret := (some .int)) (by decide) rfl (Nat.le_of_ble_eq_true rfl) ?_
  intro pp ee ss mm bb mt cd ls cx hsz hw hl
  have hl : lv_has ls 9 [(0, .ref (ad 1 0)), (1, .ref (ad 7 a1)), (2, .int a2)] := hl
  refine W.widen (k := b0.1 - b0.1) (n := b0.2 - b0.2) (Nat.zero_le _) (Nat.zero_le _) ?_
  have J132 : ∀ (ca : Nat → Nat) (hj : cd_inj ad ca) (σ : cd_S) (b : cd_B) (t0 : Int32) (t1 : Int32) (H : Heap) (locs : List Loc) (ls : Array Slot), b.1 ≤ b0.1 → b.2 ≤ b0.2 → p.2.2.1 ≤ b.1 → p.2.2.2 ≤ b.2 → f_X1_calculate_J132 n a1 σ b t0 t1 = some p → hp_w D vwCl (hp_Tl cA) E (hp_A (cd_pic cA ad ca0 σ0) sz) ss H locs (cd_pic cA ad ca σ) → lv_has ls 9 [] → W pp l ee ({ frames := 5, cells := b0.1 - p.2.2.1, slots := b0.2 - p.2.2.2, locals := 133 }) ss mm [.ref (ad 1 0), .ref (ad 7 a1), .int a2].toArray bb mt cd H locs (b0.1 - b.1) (b0.2 - b.2) (MQ bb (hp_Qi D vwCl (hp_Tl cA) sz (cd_pic cA ad ca0 σ0) (fun r u => r = p.1 ∧ ∃ ca1, cd_inj ad ca1 ∧ u = cd_pic cA ad ca1 p.2.1)) [.ref (ad 1 0), .ref (ad 7 a1), .int a2].toArray ss (b0.1 - p.2.2.1) (b0.2 - p.2.2.2) (hp_A (cd_pic cA ad ca0 σ0) sz)) (F0 mm 132 ls [.int t0, .int t1, .ref (ad 7 a1)]) := by
    intro ca hj σ b t0 t1 H locs ls hb1 hb2 hf1 hf2 h hw hl
    obtain ⟨p1, e_p1, h⟩ := md_ob h
    refine hp_callSl (As := [.int t1, .int t0]) (rest := [.ref (ad 7 a1)]) cx hw (kc_X1_valueOf l D cA E _ ad _ hj oq sgq sgv hE n σ t1 t0 p1 e_p1) (cwS 2 cx.2.2.2.2.2.1 (cd_giS cm_154 cm_155 cm_130 cm_156) rfl rfl rfl hdc_X1_valueOf ⟨Nat.le_of_ble_eq_true rfl, Nat.le_of_ble_eq_true rfl⟩) rfl hl.1 rfl (Nat.le_of_ble_eq_true rfl) dX1_calculate_132 ⟨by (try dsimp only); omega, by (try dsimp only); omega⟩ (fun r u H locs hp hw => ?_)
    obtain ⟨rfl, ca, hj, rfl⟩ := hp
    obtain ⟨p2, e_p2, h⟩ := md_ob h
    obtain ⟨hm3, hn3, h⟩ := cd_cks h
    have hM3 : p.2.2.1 ≤ p2.2.2.1 ∧ p.2.2.2 ≤ p2.2.2.2 := ⟨hm3, hn3⟩
    have hle2 := (kc_X1_push l D cA E sz ad _ hj oq sgq sgv hE n p1.2 b a1 (p1.1) (show _ < 8 by omega) p2 e_p2).1
    refine hp_callSi (As := [.ref (ad 7 a1), .long p1.1]) (rest := []) cx hw ((kc_X1_push l D cA E _ ad _ hj oq sgq sgv hE n p1.2 b a1 (p1.1) (show _ < 8 by omega) p2 e_p2).2) (cwS 2 cx.2.2.2.2.2.1 (cd_giS cm_157 cm_158 cm_130 cm_159) rfl rfl rfl hdc_X1_push ⟨Nat.le_of_ble_eq_true rfl, Nat.le_of_ble_eq_true rfl⟩) rfl hl.1 rfl (Nat.le_of_ble_eq_true rfl) dX1_calculate_135 ⟨by (try dsimp only); omega, by (try dsimp only); omega⟩ (fun r u H locs hp hw => ?_)
    obtain ⟨rfl, ca, hj, rfl⟩ := hp
    refine W.widen (k := b0.1 - p2.2.2.1) (n := b0.2 - p2.2.2.2) (by omega) (by omega) ?_
    exact hp_iret cx hw (cd_retb hj h) dX1_calculate_138 (cd_le1 h) (cd_le2 h)
  have J32 : ∀ (ca : Nat → Nat) (hj : cd_inj ad ca) (σ : cd_S) (b : cd_B) (H : Heap) (locs : List Loc) (ls : Array Slot), b.1 ≤ b0.1 → b.2 ≤ b0.2 → p.2.2.1 ≤ b.1 → p.2.2.2 ≤ b.2 → f_X1_calculate_J32 n a1 σ b = some p → hp_w D vwCl (hp_Tl cA) E (hp_A (cd_pic cA ad ca0 σ0) sz) ss H locs (cd_pic cA ad ca σ) → lv_has ls 9 [(1, .ref (ad 7 a1))] → W pp l ee ({ frames := 5, cells := b0.1 - p.2.2.1, slots := b0.2 - p.2.2.2, locals := 133 }) ss mm [.ref (ad 1 0), .ref (ad 7 a1), .int a2].toArray bb mt cd H locs (b0.1 - b.1) (b0.2 - b.2) (MQ bb (hp_Qi D vwCl (hp_Tl cA) sz (cd_pic cA ad ca0 σ0) (fun r u => r = p.1 ∧ ∃ ca1, cd_inj ad ca1 ∧ u = cd_pic cA ad ca1 p.2.1)) [.ref (ad 1 0), .ref (ad 7 a1), .int a2].toArray ss (b0.1 - p.2.2.1) (b0.2 - p.2.2.2) (hp_A (cd_pic cA ad ca0 σ0) sz)) (F0 mm 32 ls []) := by
    intro ca hj σ b H locs ls hb1 hb2 hf1 hf2 h hw hl
    refine lv_aload_n cx.1 cx.2.1 dX1_calculate_32 rfl (lv_at hl 0 rfl) ?_
    refine lv_iconst (v := 5) cx.1 cx.2.1 dX1_calculate_33 (by decide) ?_
    obtain ⟨p4, e_p4, h⟩ := md_ob h
    refine hp_callSi (As := [.ref (ad 7 a1), .int 5]) (rest := []) cx hw (kc_X1_fail l D cA E _ ad _ hj oq sgq sgv hE n σ a1 (5 : Int32) (show _ < 8 by omega) p4 e_p4) (cwS 2 cx.2.2.2.2.2.1 (cd_giS cm_132 cm_133 cm_130 cm_134) rfl rfl rfl hdc_X1_fail ⟨Nat.le_of_ble_eq_true rfl, Nat.le_of_ble_eq_true rfl⟩) rfl hl.1 rfl (Nat.le_of_ble_eq_true rfl) dX1_calculate_34 ⟨by (try dsimp only); omega, by (try dsimp only); omega⟩ (fun r u H locs hp hw => ?_)
    obtain ⟨rfl, ca, hj, rfl⟩ := hp
    exact hp_iret cx hw (cd_retb hj h) dX1_calculate_37 (cd_le1 h) (cd_le2 h)
  refine lv_aload_n cx.1 cx.2.1 dX1_calculate_0 rfl (lv_at hl 1 rfl) ?_
  refine cd_gO (o2 := 6) (e2 := (9 + 1 * a1)) (o := 7) (k := 6) (f := 230) hj cx hw hic7 rfl ⟨by decide, rfl, by decide, rfl⟩ rfl (show _ < 8 by omega) ⟨rfl, rfl⟩ (List.mem_cons_of_mem _ cm_89) dX1_calculate_1 ?_
  obtain ⟨p5, e_p5, h⟩ := md_ob h
  refine hp_callVl (As := []) (rest := []) cx hw (kc_X6_pop l D cA E _ ad _ hj oq sgq sgv hE n σ0 ((9 + 1 * a1)) (show _ < 197 by omega) p5 e_p5) (cwV 0 cx.2.2.2.2.2.1 (cd_giV cm_345 cm_346 cm_347 cm_5 cm_348) rfl rfl rfl hdc_X6_pop ⟨Nat.le_of_ble_eq_true rfl, Nat.le_of_ble_eq_true rfl⟩) (cd_atO hj (by decide) (show _ < 197 by omega)) rfl rfl hl.1 rfl (Nat.le_of_ble_eq_true rfl) dX1_calculate_4 ⟨by (try dsimp only); omega, by (try dsimp only); omega⟩ (fun r u H locs hp hw => ?_)
  obtain ⟨rfl, ca, hj, rfl⟩ := hp
  refine lv_lstore_n (lv' := [(3, .long p5.1), (0, .ref (ad 1 0)), (1, .ref (ad 7 a1)), (2, .int a2)]) cx.1 cx.2.1 dX1_calculate_7 rfl hl (by decide) rfl (fun ls hl => ?_)
  refine lv_aload_n cx.1 cx.2.1 dX1_calculate_8 rfl (lv_at hl 2 rfl) ?_
  refine cd_gO (o2 := 6) (e2 := (9 + 1 * a1)) (o := 7) (k := 6) (f := 230) hj cx hw hic7 rfl ⟨by decide, rfl, by decide, rfl⟩ rfl (show _ < 8 by omega) ⟨rfl, rfl⟩ (List.mem_cons_of_mem _ cm_89) dX1_calculate_9 ?_
  obtain ⟨p6, e_p6, h⟩ := md_ob h
  refine hp_callVl (As := []) (rest := []) cx hw (kc_X6_pop l D cA E _ ad _ hj oq sgq sgv hE n p5.2 ((9 + 1 * a1)) (show _ < 197 by omega) p6 e_p6) (cwV 0 cx.2.2.2.2.2.1 (cd_giV cm_345 cm_346 cm_347 cm_5 cm_348) rfl rfl rfl hdc_X6_pop ⟨Nat.le_of_ble_eq_true rfl, Nat.le_of_ble_eq_true rfl⟩) (cd_atO hj (by decide) (show _ < 197 by omega)) rfl rfl hl.1 rfl (Nat.le_of_ble_eq_true rfl) dX1_calculate_12 ⟨by (try dsimp only); omega, by (try dsimp only); omega⟩ (fun r u H locs hp hw => ?_)
  obtain ⟨rfl, ca, hj, rfl⟩ := hp
  refine lv_lstore (lv' := [(5, .long p6.1), (3, .long p5.1), (0, .ref (ad 1 0)), (1, .ref (ad 7 a1)), (2, .int a2)]) cx.1 cx.2.1 dX1_calculate_15 hl (by decide) rfl (fun ls hl => ?_)
  refine lv_lload cx.1 cx.2.1 dX1_calculate_17 (lv_at hl 0 rfl) ?_
  obtain ⟨p7, e_p7, h⟩ := md_ob h
  refine hp_callSi (As := [.long p6.1]) (rest := []) cx hw (kc_X1_sortOf l D cA E _ ad _ hj oq sgq sgv hE n p6.2 (p6.1) p7 e_p7) (cwS 1 cx.2.2.2.2.2.1 (cd_giS cm_279 cm_244 cm_130 cm_245) rfl rfl rfl hdc_X1_sortOf ⟨Nat.le_of_ble_eq_true rfl, Nat.le_of_ble_eq_true rfl⟩) rfl hl.1 rfl (Nat.le_of_ble_eq_true rfl) dX1_calculate_19 ⟨by (try dsimp only); omega, by (try dsimp only); omega⟩ (fun r u H locs hp hw => ?_)
  obtain ⟨rfl, ca, hj, rfl⟩ := hp
  refine lv_if_ne (tgt := 32) cx.1 cx.2.1 dX1_calculate_22 (by decide) (fun c22 => ?_) (fun c22 => ?_)
  · have h := md_in c22 h
    exact J32 _ hj p7.2 b0 _ _ _ (by omega) (by omega) (by omega) (by omega) h hw (lv_sub hl [3] rfl)
  · have h := md_ip c22 h
    refine lv_lload_n cx.1 cx.2.1 dX1_calculate_25 rfl (lv_at hl 1 rfl) ?_
    obtain ⟨p8, e_p8, h⟩ := md_ob h
    refine hp_callSi (As := [.long p5.1]) (rest := []) cx hw (kc_X1_sortOf l D cA E _ ad _ hj oq sgq sgv hE n p7.2 (p5.1) p8 e_p8) (cwS 1 cx.2.2.2.2.2.1 (cd_giS cm_279 cm_244 cm_130 cm_245) rfl rfl rfl hdc_X1_sortOf ⟨Nat.le_of_ble_eq_true rfl, Nat.le_of_ble_eq_true rfl⟩) rfl hl.1 rfl (Nat.le_of_ble_eq_true rfl) dX1_calculate_26 ⟨by (try dsimp only); omega, by (try dsimp only); omega⟩ (fun r u H locs hp hw => ?_)
    obtain ⟨rfl, ca, hj, rfl⟩ := hp
    refine lv_if_eq (tgt := 38) cx.1 cx.2.1 dX1_calculate_29 (by decide) (fun c29 => ?_) (fun c29 => ?_)
    · have h := md_ip c29 h
      refine lv_lload cx.1 cx.2.1 dX1_calculate_38 (lv_at hl 0 rfl) ?_
      refine lv_l2i (v := (p6.1.toInt32)) cx.1 cx.2.1 dX1_calculate_40 rfl ?_
      refine lv_istore (lv' := [(7, .int (p6.1.toInt32)), (5, .long p6.1), (3, .long p5.1), (0, .ref (ad 1 0)), (1, .ref (ad 7 a1)), (2, .int a2)]) cx.1 cx.2.1 dX1_calculate_41 hl (by decide) rfl (fun ls hl => ?_)
      refine lv_lload_n cx.1 cx.2.1 dX1_calculate_43 rfl (lv_at hl 2 rfl) ?_
      refine lv_l2i (v := (p5.1.toInt32)) cx.1 cx.2.1 dX1_calculate_44 rfl ?_
      refine lv_istore (lv' := [(8, .int (p5.1.toInt32)), (7, .int (p6.1.toInt32)), (5, .long p6.1), (3, .long p5.1), (0, .ref (ad 1 0)), (1, .ref (ad 7 a1)), (2, .int a2)]) cx.1 cx.2.1 dX1_calculate_45 hl (by decide) rfl (fun ls hl => ?_)
      refine lv_iload_n cx.1 cx.2.1 dX1_calculate_47 rfl (lv_at hl 6 rfl) ?_
      by_cases c48_11 : a2 = 11
      · refine lv_tableIn (off := 28) (tgt := 76) cx.1 cx.2.1 dX1_calculate_48 (by rw [c48_11]; decide) (by rw [c48_11]; decide) (by rw [c48_11]; decide) (by decide) ?_
        have h := md_ip c48_11 h
        refine lv_aload_n cx.1 cx.2.1 dX1_calculate_76 rfl (lv_at hl 5 rfl) ?_
        refine lv_iconst (v := 0) cx.1 cx.2.1 dX1_calculate_77 (by decide) ?_
        refine lv_iload cx.1 cx.2.1 dX1_calculate_78 (lv_at hl 1 rfl) ?_
        refine lv_iload cx.1 cx.2.1 dX1_calculate_80 (lv_at hl 0 rfl) ?_
        refine lv_iadd cx.1 cx.2.1 dX1_calculate_82 ?_
        obtain ⟨p9, e_p9, h⟩ := md_ob h
        refine hp_callSl (As := [.int 0, .int ((p6.1.toInt32) + (p5.1.toInt32))]) (rest := [.ref (ad 7 a1)]) cx hw (kc_X1_valueOf l D cA E _ ad _ hj oq sgq sgv hE n p8.2 (0 : Int32) (((p6.1.toInt32) + (p5.1.toInt32))) p9 e_p9) (cwS 2 cx.2.2.2.2.2.1 (cd_giS cm_154 cm_155 cm_130 cm_156) rfl rfl rfl hdc_X1_valueOf ⟨Nat.le_of_ble_eq_true rfl, Nat.le_of_ble_eq_true rfl⟩) rfl hl.1 rfl (Nat.le_of_ble_eq_true rfl) dX1_calculate_83 ⟨by (try dsimp only); omega, by (try dsimp only); omega⟩ (fun r u H locs hp hw => ?_)
        obtain ⟨rfl, ca, hj, rfl⟩ := hp
        obtain ⟨p10, e_p10, h⟩ := md_ob h
        obtain ⟨hm11, hn11, h⟩ := cd_cks h
        have hM11 : p.2.2.1 ≤ p10.2.2.1 ∧ p.2.2.2 ≤ p10.2.2.2 := ⟨hm11, hn11⟩
        have hle10 := (kc_X1_push l D cA E sz ad _ hj oq sgq sgv hE n p9.2 b0 a1 (p9.1) (show _ < 8 by omega) p10 e_p10).1
        refine hp_callSi (As := [.ref (ad 7 a1), .long p9.1]) (rest := []) cx hw ((kc_X1_push l D cA E _ ad _ hj oq sgq sgv hE n p9.2 b0 a1 (p9.1) (show _ < 8 by omega) p10 e_p10).2) (cwS 2 cx.2.2.2.2.2.1 (cd_giS cm_157 cm_158 cm_130 cm_159) rfl rfl rfl hdc_X1_push ⟨Nat.le_of_ble_eq_true rfl, Nat.le_of_ble_eq_true rfl⟩) rfl hl.1 rfl (Nat.le_of_ble_eq_true rfl) dX1_calculate_86 ⟨by (try dsimp only); omega, by (try dsimp only); omega⟩ (fun r u H locs hp hw => ?_)
        obtain ⟨rfl, ca, hj, rfl⟩ := hp
        refine W.widen (k := b0.1 - p10.2.2.1) (n := b0.2 - p10.2.2.2) (by omega) (by omega) ?_
        exact hp_iret cx hw (cd_retb hj h) dX1_calculate_89 (cd_le1 h) (cd_le2 h)
      have h := md_in c48_11 h
      by_cases c48_12 : a2 = 12
      · refine lv_tableIn (off := 42) (tgt := 90) cx.1 cx.2.1 dX1_calculate_48 (by rw [c48_12]; decide) (by rw [c48_12]; decide) (by rw [c48_12]; decide) (by decide) ?_
        have h := md_ip c48_12 h
        refine lv_aload_n cx.1 cx.2.1 dX1_calculate_90 rfl (lv_at hl 5 rfl) ?_
        refine lv_iconst (v := 0) cx.1 cx.2.1 dX1_calculate_91 (by decide) ?_
        refine lv_iload cx.1 cx.2.1 dX1_calculate_92 (lv_at hl 1 rfl) ?_
        refine lv_iload cx.1 cx.2.1 dX1_calculate_94 (lv_at hl 0 rfl) ?_
        refine lv_isub cx.1 cx.2.1 dX1_calculate_96 ?_
        obtain ⟨p12, e_p12, h⟩ := md_ob h
        refine hp_callSl (As := [.int 0, .int ((p6.1.toInt32) - (p5.1.toInt32))]) (rest := [.ref (ad 7 a1)]) cx hw (kc_X1_valueOf l D cA E _ ad _ hj oq sgq sgv hE n p8.2 (0 : Int32) (((p6.1.toInt32) - (p5.1.toInt32))) p12 e_p12) (cwS 2 cx.2.2.2.2.2.1 (cd_giS cm_154 cm_155 cm_130 cm_156) rfl rfl rfl hdc_X1_valueOf ⟨Nat.le_of_ble_eq_true rfl, Nat.le_of_ble_eq_true rfl⟩) rfl hl.1 rfl (Nat.le_of_ble_eq_true rfl) dX1_calculate_97 ⟨by (try dsimp only); omega, by (try dsimp only); omega⟩ (fun r u H locs hp hw => ?_)
        obtain ⟨rfl, ca, hj, rfl⟩ := hp
        obtain ⟨p13, e_p13, h⟩ := md_ob h
        obtain ⟨hm14, hn14, h⟩ := cd_cks h
        have hM14 : p.2.2.1 ≤ p13.2.2.1 ∧ p.2.2.2 ≤ p13.2.2.2 := ⟨hm14, hn14⟩
        have hle13 := (kc_X1_push l D cA E sz ad _ hj oq sgq sgv hE n p12.2 b0 a1 (p12.1) (show _ < 8 by omega) p13 e_p13).1
        refine hp_callSi (As := [.ref (ad 7 a1), .long p12.1]) (rest := []) cx hw ((kc_X1_push l D cA E _ ad _ hj oq sgq sgv hE n p12.2 b0 a1 (p12.1) (show _ < 8 by omega) p13 e_p13).2) (cwS 2 cx.2.2.2.2.2.1 (cd_giS cm_157 cm_158 cm_130 cm_159) rfl rfl rfl hdc_X1_push ⟨Nat.le_of_ble_eq_true rfl, Nat.le_of_ble_eq_true rfl⟩) rfl hl.1 rfl (Nat.le_of_ble_eq_true rfl) dX1_calculate_100 ⟨by (try dsimp only); omega, by (try dsimp only); omega⟩ (fun r u H locs hp hw => ?_)
        obtain ⟨rfl, ca, hj, rfl⟩ := hp
        refine W.widen (k := b0.1 - p13.2.2.1) (n := b0.2 - p13.2.2.2) (by omega) (by omega) ?_
        exact hp_iret cx hw (cd_retb hj h) dX1_calculate_103 (cd_le1 h) (cd_le2 h)
      have h := md_in c48_12 h
      by_cases c48_13 : a2 = 13
      · refine lv_tableIn (off := 56) (tgt := 104) cx.1 cx.2.1 dX1_calculate_48 (by rw [c48_13]; decide) (by rw [c48_13]; decide) (by rw [c48_13]; decide) (by decide) ?_
        have h := md_ip c48_13 h
        refine lv_aload_n cx.1 cx.2.1 dX1_calculate_104 rfl (lv_at hl 5 rfl) ?_
        refine lv_iconst (v := 0) cx.1 cx.2.1 dX1_calculate_105 (by decide) ?_
        refine lv_iload cx.1 cx.2.1 dX1_calculate_106 (lv_at hl 1 rfl) ?_
        refine lv_iload cx.1 cx.2.1 dX1_calculate_108 (lv_at hl 0 rfl) ?_
        refine lv_imul cx.1 cx.2.1 dX1_calculate_110 ?_
        obtain ⟨p15, e_p15, h⟩ := md_ob h
        refine hp_callSl (As := [.int 0, .int ((p6.1.toInt32) * (p5.1.toInt32))]) (rest := [.ref (ad 7 a1)]) cx hw (kc_X1_valueOf l D cA E _ ad _ hj oq sgq sgv hE n p8.2 (0 : Int32) (((p6.1.toInt32) * (p5.1.toInt32))) p15 e_p15) (cwS 2 cx.2.2.2.2.2.1 (cd_giS cm_154 cm_155 cm_130 cm_156) rfl rfl rfl hdc_X1_valueOf ⟨Nat.le_of_ble_eq_true rfl, Nat.le_of_ble_eq_true rfl⟩) rfl hl.1 rfl (Nat.le_of_ble_eq_true rfl) dX1_calculate_111 ⟨by (try dsimp only); omega, by (try dsimp only); omega⟩ (fun r u H locs hp hw => ?_)
        obtain ⟨rfl, ca, hj, rfl⟩ := hp
        obtain ⟨p16, e_p16, h⟩ := md_ob h
        obtain ⟨hm17, hn17, h⟩ := cd_cks h
        have hM17 : p.2.2.1 ≤ p16.2.2.1 ∧ p.2.2.2 ≤ p16.2.2.2 := ⟨hm17, hn17⟩
        have hle16 := (kc_X1_push l D cA E sz ad _ hj oq sgq sgv hE n p15.2 b0 a1 (p15.1) (show _ < 8 by omega) p16 e_p16).1
        refine hp_callSi (As := [.ref (ad 7 a1), .long p15.1]) (rest := []) cx hw ((kc_X1_push l D cA E _ ad _ hj oq sgq sgv hE n p15.2 b0 a1 (p15.1) (show _ < 8 by omega) p16 e_p16).2) (cwS 2 cx.2.2.2.2.2.1 (cd_giS cm_157 cm_158 cm_130 cm_159) rfl rfl rfl hdc_X1_push ⟨Nat.le_of_ble_eq_true rfl, Nat.le_of_ble_eq_true rfl⟩) rfl hl.1 rfl (Nat.le_of_ble_eq_true rfl) dX1_calculate_114 ⟨by (try dsimp only); omega, by (try dsimp only); omega⟩ (fun r u H locs hp hw => ?_)
        obtain ⟨rfl, ca, hj, rfl⟩ := hp
        refine W.widen (k := b0.1 - p16.2.2.1) (n := b0.2 - p16.2.2.2) (by omega) (by omega) ?_
        exact hp_iret cx hw (cd_retb hj h) dX1_calculate_117 (cd_le1 h) (cd_le2 h)
      have h := md_in c48_13 h
      have nc48_11 := md_nei c48_11
      have nc48_12 := md_nei c48_12
      have nc48_13 := md_nei c48_13
      refine lv_tableOut (tgt := 118) cx.1 cx.2.1 dX1_calculate_48 (by have := nc48_11; rw [show ((11 : Int32)).toInt = 11 from by decide] at this; have := nc48_12; rw [show ((12 : Int32)).toInt = 12 from by decide] at this; have := nc48_13; rw [show ((13 : Int32)).toInt = 13 from by decide] at this;  omega) (by decide) ?_
      refine lv_aload_n cx.1 cx.2.1 dX1_calculate_118 rfl (lv_at hl 5 rfl) ?_
      refine lv_iconst (v := 0) cx.1 cx.2.1 dX1_calculate_119 (by decide) ?_
      refine lv_iload cx.1 cx.2.1 dX1_calculate_120 (lv_at hl 1 rfl) ?_
      refine lv_iload cx.1 cx.2.1 dX1_calculate_122 (lv_at hl 0 rfl) ?_
      refine lv_icmp_ge (tgt := 131) cx.1 cx.2.1 dX1_calculate_124 (by decide) (fun c124 => ?_) (fun c124 => ?_)
      · have h := md_ip c124 h
        refine lv_iconst (v := 0) cx.1 cx.2.1 dX1_calculate_131 (by decide) ?_
        exact J132 _ hj p8.2 b0 0 0 _ _ _ (by omega) (by omega) (by omega) (by omega) h hw (lv_sub hl [] rfl)
      · have h := md_in c124 h
        refine lv_iconst (v := 1) cx.1 cx.2.1 dX1_calculate_127 (by decide) ?_
        refine lv_goto (tgt := 132) cx.1 cx.2.1 dX1_calculate_128 (by decide) ?_
        exact J132 _ hj p8.2 b0 1 0 _ _ _ (by omega) (by omega) (by omega) (by omega) h hw (lv_sub hl [] rfl)
    · have h := md_in c29 h
      exact J32 _ hj p8.2 b0 _ _ _ (by omega) (by omega) (by omega) (by omega) h hw (lv_sub hl [3] rfl)
set_option maxHeartbeats 4000000 in
set_option maxRecDepth 100000 in
theorem kc_X1_callPart (l : Launch) (D : va_G) (cA : Nat → ClassId) (E : hp_N) (sz : Nat) (ad : Nat → Nat → Nat) (ca0 : Nat → Nat) (hj : cd_inj ad ca0) (oq sgq sgv : Nat) (hE : cd_E E oq sgq sgv) (n : Nat) (σ0 : cd_S) (a1 : Nat) (a2 : Nat) (hb_a1 : a1 < 8) (hb_a2 : a2 < 60) (p : (Int32 × cd_S)) (h : f_X1_callPart n σ0 a1 a2 = some p) : Met l yX1_callPart (Cond.code yX1_callPart cX1_callPart 6 (some .int) :: v_CLS) ({ frames := 2, cells := 0, slots := 0, locals := 49 }) (hp_Pc D vwCl (hp_Tl cA) E sz (cd_pic cA ad ca0 σ0) [.ref (ad 1 0), .ref (ad 7 a1), .ref (ad 9 a2)]) (hp_Qi D vwCl (hp_Tl cA) sz (cd_pic cA ad ca0 σ0) (fun r u => r = p.1 ∧ ∃ ca1, cd_inj ad ca1 ∧ u = cd_pic cA ad ca1 p.2)) 0 0 (hp_A (cd_pic cA ad ca0 σ0) sz) := by
  refine hp_ofW (cc := cX1_callPart) (maxL := 6) (ret := (some .int)) (by decide) rfl (Nat.le_of_ble_eq_true rfl) ?_
  intro pp ee ss mm bb mt cd ls cx hsz hw hl
  have hl : lv_has ls 6 [(0, .ref (ad 1 0)), (1, .ref (ad 7 a1)), (2, .ref (ad 9 a2))] := hl
  refine lv_aload_n cx.1 cx.2.1 dX1_callPart_0 rfl (lv_at hl 1 rfl) ?_
  refine cd_gO (o2 := 6) (e2 := (9 + 1 * a1)) (o := 7) (k := 6) (f := 230) hj cx hw hic7 rfl ⟨by decide, rfl, by decide, rfl⟩ rfl (show _ < 8 by omega) ⟨rfl, rfl⟩ (List.mem_cons_of_mem _ cm_89) dX1_callPart_1 ?_
  refine cd_gI (o := 6) (k := 1) (f := 193) hj cx hw hic6 rfl ⟨by decide, rfl, by decide, rfl⟩ rfl (show _ < 197 by omega) (List.mem_cons_of_mem _ cm_74) dX1_callPart_4 ?_
  refine lv_aload_n cx.1 cx.2.1 dX1_callPart_7 rfl (lv_at hl 2 rfl) ?_
  refine cd_gI (o := 9) (k := 11) (f := 299) hj cx hw hic9 rfl ⟨by decide, rfl, by decide, rfl⟩ rfl (show _ < 60 by omega) (List.mem_cons_of_mem _ cm_268) dX1_callPart_8 ?_
  refine lv_isub cx.1 cx.2.1 dX1_callPart_11 ?_
  refine lv_istore_n (lv' := [(3, .int ((cI σ0 193 ((9 + 1 * a1))) - (cI σ0 299 a2))), (0, .ref (ad 1 0)), (1, .ref (ad 7 a1)), (2, .ref (ad 9 a2))]) cx.1 cx.2.1 dX1_callPart_12 rfl hl (by decide) rfl (fun ls hl => ?_)
  refine lv_aload_n cx.1 cx.2.1 dX1_callPart_13 rfl (lv_at hl 3 rfl) ?_
  refine cd_gI (o := 9) (k := 1) (f := 289) hj cx hw hic9 rfl ⟨by decide, rfl, by decide, rfl⟩ rfl (show _ < 60 by omega) (List.mem_cons_of_mem _ cm_77) dX1_callPart_14 ?_
  refine lv_iconst (v := 4) cx.1 cx.2.1 dX1_callPart_17 (by decide) ?_
  refine lv_icmp_eq (tgt := 31) cx.1 cx.2.1 dX1_callPart_18 (by decide) (fun c18 => ?_) (fun c18 => ?_)
  · have h := md_ip c18 h
    refine lv_aload_n cx.1 cx.2.1 dX1_callPart_31 rfl (lv_at hl 2 rfl) ?_
    refine lv_aload_n cx.1 cx.2.1 dX1_callPart_32 rfl (lv_at hl 3 rfl) ?_
    refine cd_gI (o := 9) (k := 11) (f := 299) hj cx hw hic9 rfl ⟨by decide, rfl, by decide, rfl⟩ rfl (show _ < 60 by omega) (List.mem_cons_of_mem _ cm_268) dX1_callPart_33 ?_
    obtain ⟨p1, e_p1, h⟩ := md_ob h
    refine hp_callVl (As := [.int (cI σ0 299 a2)]) (rest := []) cx hw (kc_X7_peek l D cA E _ ad _ hj oq sgq sgv hE n σ0 a1 ((cI σ0 299 a2)) (show _ < 8 by omega) p1 e_p1) (cwV 1 cx.2.2.2.2.2.1 (cd_giV cm_275 cm_276 cm_277 cm_94 cm_278) rfl rfl rfl hdc_X7_peek ⟨Nat.le_of_ble_eq_true rfl, Nat.le_of_ble_eq_true rfl⟩) (cd_atO hj (by decide) (show _ < 8 by omega)) rfl rfl hl.1 rfl (Nat.le_of_ble_eq_true rfl) dX1_callPart_36 ⟨Nat.le_refl _, Nat.le_refl _⟩ (fun r u H locs hp hw => ?_)
    obtain ⟨rfl, ca, hj, rfl⟩ := hp
    refine lv_lstore (lv' := [(4, .long p1.1), (3, .int ((cI σ0 193 ((9 + 1 * a1))) - (cI σ0 299 a2))), (0, .ref (ad 1 0)), (1, .ref (ad 7 a1)), (2, .ref (ad 9 a2))]) cx.1 cx.2.1 dX1_callPart_39 hl (by decide) rfl (fun ls hl => ?_)
    refine lv_lload cx.1 cx.2.1 dX1_callPart_41 (lv_at hl 0 rfl) ?_
    obtain ⟨p2, e_p2, h⟩ := md_ob h
    refine hp_callSi (As := [.long p1.1]) (rest := []) cx hw (kc_X1_sortOf l D cA E _ ad _ hj oq sgq sgv hE n p1.2 (p1.1) p2 e_p2) (cwS 1 cx.2.2.2.2.2.1 (cd_giS cm_279 cm_244 cm_130 cm_245) rfl rfl rfl hdc_X1_sortOf ⟨Nat.le_of_ble_eq_true rfl, Nat.le_of_ble_eq_true rfl⟩) rfl hl.1 rfl (Nat.le_of_ble_eq_true rfl) dX1_callPart_43 ⟨Nat.le_refl _, Nat.le_refl _⟩ (fun r u H locs hp hw => ?_)
    obtain ⟨rfl, ca, hj, rfl⟩ := hp
    refine lv_iconst (v := 4) cx.1 cx.2.1 dX1_callPart_46 (by decide) ?_
    refine lv_icmp_eq (tgt := 56) cx.1 cx.2.1 dX1_callPart_47 (by decide) (fun c47 => ?_) (fun c47 => ?_)
    · have h := md_ip c47 h
      refine lv_aload_n cx.1 cx.2.1 dX1_callPart_56 rfl (lv_at hl 2 rfl) ?_
      refine lv_aload_n cx.1 cx.2.1 dX1_callPart_57 rfl (lv_at hl 3 rfl) ?_
      refine lv_aload_n cx.1 cx.2.1 dX1_callPart_58 rfl (lv_at hl 4 rfl) ?_
      refine lv_iload_n cx.1 cx.2.1 dX1_callPart_59 rfl (lv_at hl 1 rfl) ?_
      refine lv_iload_n cx.1 cx.2.1 dX1_callPart_60 rfl (lv_at hl 1 rfl) ?_
      refine lv_iconst (v := 1) cx.1 cx.2.1 dX1_callPart_61 (by decide) ?_
      refine lv_isub cx.1 cx.2.1 dX1_callPart_62 ?_
      refine lv_lload cx.1 cx.2.1 dX1_callPart_63 (lv_at hl 0 rfl) ?_
      refine lv_l2i (v := (p1.1.toInt32)) cx.1 cx.2.1 dX1_callPart_65 rfl ?_
      obtain ⟨p3, e_p3, h⟩ := md_ob h
      refine hp_callVi (As := [.ref (ad 7 a1), .ref (ad 9 a2), .int ((cI σ0 193 ((9 + 1 * a1))) - (cI σ0 299 a2)), .int (((cI σ0 193 ((9 + 1 * a1))) - (cI σ0 299 a2)) - 1), .int (p1.1.toInt32)]) (rest := []) cx hw (kc_X1_call l D cA E _ ad _ hj oq sgq sgv hE n p2.2 a1 a2 (((cI σ0 193 ((9 + 1 * a1))) - (cI σ0 299 a2))) ((((cI σ0 193 ((9 + 1 * a1))) - (cI σ0 299 a2)) - 1)) ((p1.1.toInt32)) (show _ < 8 by omega) (show _ < 60 by omega) p3 e_p3) (cwV 5 cx.2.2.2.2.2.1 (cd_giV cm_293 cm_294 cm_295 cm_130 cm_296) rfl rfl rfl hdc_X1_call ⟨Nat.le_of_ble_eq_true rfl, Nat.le_of_ble_eq_true rfl⟩) (cd_atO hj (by decide) (by decide)) rfl rfl hl.1 rfl (Nat.le_of_ble_eq_true rfl) dX1_callPart_66 ⟨Nat.le_refl _, Nat.le_refl _⟩ (fun r u H locs hp hw => ?_)
      obtain ⟨rfl, ca, hj, rfl⟩ := hp
      exact hp_iret cx hw (cd_ret hj h) dX1_callPart_69
    · have h := md_in c47 h
      refine lv_aload_n cx.1 cx.2.1 dX1_callPart_50 rfl (lv_at hl 3 rfl) ?_
      refine lv_iconst (v := 3) cx.1 cx.2.1 dX1_callPart_51 (by decide) ?_
      obtain ⟨p4, e_p4, h⟩ := md_ob h
      refine hp_callSi (As := [.ref (ad 7 a1), .int 3]) (rest := []) cx hw (kc_X1_fail l D cA E _ ad _ hj oq sgq sgv hE n p2.2 a1 (3 : Int32) (show _ < 8 by omega) p4 e_p4) (cwS 2 cx.2.2.2.2.2.1 (cd_giS cm_132 cm_133 cm_130 cm_134) rfl rfl rfl hdc_X1_fail ⟨Nat.le_of_ble_eq_true rfl, Nat.le_of_ble_eq_true rfl⟩) rfl hl.1 rfl (Nat.le_of_ble_eq_true rfl) dX1_callPart_52 ⟨Nat.le_refl _, Nat.le_refl _⟩ (fun r u H locs hp hw => ?_)
      obtain ⟨rfl, ca, hj, rfl⟩ := hp
      exact hp_iret cx hw (cd_ret hj h) dX1_callPart_55
  · have h := md_in c18 h
    refine lv_aload_n cx.1 cx.2.1 dX1_callPart_21 rfl (lv_at hl 1 rfl) ?_
    refine lv_aload_n cx.1 cx.2.1 dX1_callPart_22 rfl (lv_at hl 2 rfl) ?_
    refine lv_aload_n cx.1 cx.2.1 dX1_callPart_23 rfl (lv_at hl 3 rfl) ?_
    refine lv_iload_n cx.1 cx.2.1 dX1_callPart_24 rfl (lv_at hl 0 rfl) ?_
    refine lv_iload_n cx.1 cx.2.1 dX1_callPart_25 rfl (lv_at hl 0 rfl) ?_
    refine lv_iconst (v := (-1)) cx.1 cx.2.1 dX1_callPart_26 (by decide) ?_
    obtain ⟨p5, e_p5, h⟩ := md_ob h
    refine hp_callVi (As := [.ref (ad 7 a1), .ref (ad 9 a2), .int ((cI σ0 193 ((9 + 1 * a1))) - (cI σ0 299 a2)), .int ((cI σ0 193 ((9 + 1 * a1))) - (cI σ0 299 a2)), .int (-1)]) (rest := []) cx hw (kc_X1_call l D cA E _ ad _ hj oq sgq sgv hE n σ0 a1 a2 (((cI σ0 193 ((9 + 1 * a1))) - (cI σ0 299 a2))) (((cI σ0 193 ((9 + 1 * a1))) - (cI σ0 299 a2))) ((-1) : Int32) (show _ < 8 by omega) (show _ < 60 by omega) p5 e_p5) (cwV 5 cx.2.2.2.2.2.1 (cd_giV cm_293 cm_294 cm_295 cm_130 cm_296) rfl rfl rfl hdc_X1_call ⟨Nat.le_of_ble_eq_true rfl, Nat.le_of_ble_eq_true rfl⟩) (cd_atO hj (by decide) (by decide)) rfl rfl hl.1 rfl (Nat.le_of_ble_eq_true rfl) dX1_callPart_27 ⟨Nat.le_refl _, Nat.le_refl _⟩ (fun r u H locs hp hw => ?_)
    obtain ⟨rfl, ca, hj, rfl⟩ := hp
    exact hp_iret cx hw (cd_ret hj h) dX1_callPart_30
set_option maxHeartbeats 4000000 in
set_option maxRecDepth 100000 in
theorem kc_X1_closeTry (l : Launch) (D : va_G) (cA : Nat → ClassId) (E : hp_N) (sz : Nat) (ad : Nat → Nat → Nat) (ca0 : Nat → Nat) (hj : cd_inj ad ca0) (oq sgq sgv : Nat) (hE : cd_E E oq sgq sgv) (n : Nat) (σ0 : cd_S) (b0 : cd_B) (a0 : Nat) (hb_a0 : a0 < 8) (p : (Int32 × cd_S × cd_B)) (h : f_X1_closeTry n σ0 b0 a0 = some p) : (p.2.2.1 ≤ b0.1 ∧ p.2.2.2 ≤ b0.2) ∧ Met l yX1_closeTry (Cond.code yX1_closeTry cX1_closeTry 3 (some .int) :: v_CLS) ({ frames := 5, cells := b0.1 - p.2.2.1, slots := b0.2 - p.2.2.2, locals := 133 }) (hp_Pc D vwCl (hp_Tl cA) E sz (cd_pic cA ad ca0 σ0) [.ref (ad 7 a0)]) (hp_Qi D vwCl (hp_Tl cA) sz (cd_pic cA ad ca0 σ0) (fun r u => r = p.1 ∧ ∃ ca1, cd_inj ad ca1 ∧ u = cd_pic cA ad ca1 p.2.1)) (b0.1 - p.2.2.1) (b0.2 - p.2.2.2) (hp_A (cd_pic cA ad ca0 σ0) sz) := by
  obtain ⟨hm0, hn0, h⟩ := cd_cks h
  have hM0 : p.2.2.1 ≤ b0.1 ∧ p.2.2.2 ≤ b0.2 := ⟨hm0, hn0⟩
  refine ⟨hM0, ?_⟩
  refine hp_ofW (cc := cX1_closeTry) (maxL := 3) (ret := (some .int)) (by decide) rfl (Nat.le_of_ble_eq_true rfl) ?_
  intro pp ee ss mm bb mt cd ls cx hsz hw hl
  have hl : lv_has ls 3 [(0, .ref (ad 7 a0))] := hl
  refine W.widen (k := b0.1 - b0.1) (n := b0.2 - b0.2) (Nat.zero_le _) (Nat.zero_le _) ?_
  refine lv_aload_n cx.1 cx.2.1 dX1_closeTry_0 rfl (lv_at hl 0 rfl) ?_
  refine cd_gO (o2 := 6) (e2 := (9 + 1 * a0)) (o := 7) (k := 6) (f := 230) hj cx hw hic7 rfl ⟨by decide, rfl, by decide, rfl⟩ rfl (show _ < 8 by omega) ⟨rfl, rfl⟩ (List.mem_cons_of_mem _ cm_89) dX1_closeTry_1 ?_
  obtain ⟨p1, e_p1, h⟩ := md_ob h
  refine hp_callVl (As := []) (rest := []) cx hw (kc_X6_pop l D cA E _ ad _ hj oq sgq sgv hE n σ0 ((9 + 1 * a0)) (show _ < 197 by omega) p1 e_p1) (cwV 0 cx.2.2.2.2.2.1 (cd_giV cm_345 cm_346 cm_347 cm_5 cm_348) rfl rfl rfl hdc_X6_pop ⟨Nat.le_of_ble_eq_true rfl, Nat.le_of_ble_eq_true rfl⟩) (cd_atO hj (by decide) (show _ < 197 by omega)) rfl rfl hl.1 rfl (Nat.le_of_ble_eq_true rfl) dX1_closeTry_4 ⟨by (try dsimp only); omega, by (try dsimp only); omega⟩ (fun r u H locs hp hw => ?_)
  obtain ⟨rfl, ca, hj, rfl⟩ := hp
  refine lv_lstore_n (lv' := [(1, .long p1.1), (0, .ref (ad 7 a0))]) cx.1 cx.2.1 dX1_closeTry_7 rfl hl (by decide) rfl (fun ls hl => ?_)
  refine lv_aload_n cx.1 cx.2.1 dX1_closeTry_8 rfl (lv_at hl 1 rfl) ?_
  refine cd_gO (o2 := 6) (e2 := (9 + 1 * a0)) (o := 7) (k := 6) (f := 230) hj cx hw hic7 rfl ⟨by decide, rfl, by decide, rfl⟩ rfl (show _ < 8 by omega) ⟨rfl, rfl⟩ (List.mem_cons_of_mem _ cm_89) dX1_closeTry_9 ?_
  obtain ⟨p2, e_p2, h⟩ := md_ob h
  refine hp_callVl (As := []) (rest := []) cx hw (kc_X6_pop l D cA E _ ad _ hj oq sgq sgv hE n p1.2 ((9 + 1 * a0)) (show _ < 197 by omega) p2 e_p2) (cwV 0 cx.2.2.2.2.2.1 (cd_giV cm_345 cm_346 cm_347 cm_5 cm_348) rfl rfl rfl hdc_X6_pop ⟨Nat.le_of_ble_eq_true rfl, Nat.le_of_ble_eq_true rfl⟩) (cd_atO hj (by decide) (show _ < 197 by omega)) rfl rfl hl.1 rfl (Nat.le_of_ble_eq_true rfl) dX1_closeTry_12 ⟨by (try dsimp only); omega, by (try dsimp only); omega⟩ (fun r u H locs hp hw => ?_)
  obtain ⟨rfl, ca, hj, rfl⟩ := hp
  refine lv_pop2_2 cx.1 cx.2.1 dX1_closeTry_15 rfl ?_
  refine lv_aload_n cx.1 cx.2.1 dX1_closeTry_16 rfl (lv_at hl 1 rfl) ?_
  refine lv_lload_n cx.1 cx.2.1 dX1_closeTry_17 rfl (lv_at hl 0 rfl) ?_
  obtain ⟨p3, e_p3, h⟩ := md_ob h
  obtain ⟨hm4, hn4, h⟩ := cd_cks h
  have hM4 : p.2.2.1 ≤ p3.2.2.1 ∧ p.2.2.2 ≤ p3.2.2.2 := ⟨hm4, hn4⟩
  have hle3 := (kc_X1_push l D cA E sz ad _ hj oq sgq sgv hE n p2.2 b0 a0 (p1.1) (show _ < 8 by omega) p3 e_p3).1
  refine hp_callSi (As := [.ref (ad 7 a0), .long p1.1]) (rest := []) cx hw ((kc_X1_push l D cA E _ ad _ hj oq sgq sgv hE n p2.2 b0 a0 (p1.1) (show _ < 8 by omega) p3 e_p3).2) (cwS 2 cx.2.2.2.2.2.1 (cd_giS cm_157 cm_158 cm_130 cm_159) rfl rfl rfl hdc_X1_push ⟨Nat.le_of_ble_eq_true rfl, Nat.le_of_ble_eq_true rfl⟩) rfl hl.1 rfl (Nat.le_of_ble_eq_true rfl) dX1_closeTry_18 ⟨by (try dsimp only); omega, by (try dsimp only); omega⟩ (fun r u H locs hp hw => ?_)
  obtain ⟨rfl, ca, hj, rfl⟩ := hp
  refine W.widen (k := b0.1 - p3.2.2.1) (n := b0.2 - p3.2.2.2) (by omega) (by omega) ?_
  exact hp_iret cx hw (cd_retb hj h) dX1_closeTry_21 (cd_le1 h) (cd_le2 h)
set_option maxHeartbeats 4000000 in
set_option maxRecDepth 100000 in
theorem kc_X1_compareSame (l : Launch) (D : va_G) (cA : Nat → ClassId) (E : hp_N) (sz : Nat) (ad : Nat → Nat → Nat) (ca0 : Nat → Nat) (hj : cd_inj ad ca0) (oq sgq sgv : Nat) (hE : cd_E E oq sgq sgv) (n : Nat) (σ0 : cd_S) (b0 : cd_B) (a1 : Nat) (hb_a1 : a1 < 8) (p : (Int32 × cd_S × cd_B)) (h : f_X1_compareSame n σ0 b0 a1 = some p) : (p.2.2.1 ≤ b0.1 ∧ p.2.2.2 ≤ b0.2) ∧ Met l yX1_compareSame (Cond.code yX1_compareSame cX1_compareSame 6 (some .int) :: v_CLS) ({ frames := 5, cells := b0.1 - p.2.2.1, slots := b0.2 - p.2.2.2, locals := 133 }) (hp_Pc D vwCl (hp_Tl cA) E sz (cd_pic cA ad ca0 σ0) [.ref (ad 1 0), .ref (ad 7 a1)]) (hp_Qi D vwCl (hp_Tl cA) sz (cd_pic cA ad ca0 σ0) (fun r u => r = p.1 ∧ ∃ ca1, cd_inj ad ca1 ∧ u = cd_pic cA ad ca1 p.2.1)) (b0.1 - p.2.2.1) (b0.2 - p.2.2.2) (hp_A (cd_pic cA ad ca0 σ0) sz) := by
  obtain ⟨hm0, hn0, h⟩ := cd_cks h
  have hM0 : p.2.2.1 ≤ b0.1 ∧ p.2.2.2 ≤ b0.2 := ⟨hm0, hn0⟩
  refine ⟨hM0, ?_⟩
  refine hp_ofW (cc := cX1_compareSame) (maxL := 6) (ret := (some .int)) (by decide) rfl (Nat.le_of_ble_eq_true rfl) ?_
  intro pp ee ss mm bb mt cd ls cx hsz hw hl
  have hl : lv_has ls 6 [(0, .ref (ad 1 0)), (1, .ref (ad 7 a1))] := hl
  refine W.widen (k := b0.1 - b0.1) (n := b0.2 - b0.2) (Nat.zero_le _) (Nat.zero_le _) ?_
  have J54 : ∀ (ca : Nat → Nat) (hj : cd_inj ad ca) (σ : cd_S) (b : cd_B) (t0 : Int32) (t1 : Int32) (H : Heap) (locs : List Loc) (ls : Array Slot), b.1 ≤ b0.1 → b.2 ≤ b0.2 → p.2.2.1 ≤ b.1 → p.2.2.2 ≤ b.2 → f_X1_compareSame_J54 n a1 σ b t0 t1 = some p → hp_w D vwCl (hp_Tl cA) E (hp_A (cd_pic cA ad ca0 σ0) sz) ss H locs (cd_pic cA ad ca σ) → lv_has ls 6 [] → W pp l ee ({ frames := 5, cells := b0.1 - p.2.2.1, slots := b0.2 - p.2.2.2, locals := 133 }) ss mm [.ref (ad 1 0), .ref (ad 7 a1)].toArray bb mt cd H locs (b0.1 - b.1) (b0.2 - b.2) (MQ bb (hp_Qi D vwCl (hp_Tl cA) sz (cd_pic cA ad ca0 σ0) (fun r u => r = p.1 ∧ ∃ ca1, cd_inj ad ca1 ∧ u = cd_pic cA ad ca1 p.2.1)) [.ref (ad 1 0), .ref (ad 7 a1)].toArray ss (b0.1 - p.2.2.1) (b0.2 - p.2.2.2) (hp_A (cd_pic cA ad ca0 σ0) sz)) (F0 mm 54 ls [.int t0, .int t1, .ref (ad 7 a1)]) := by
    intro ca hj σ b t0 t1 H locs ls hb1 hb2 hf1 hf2 h hw hl
    obtain ⟨p1, e_p1, h⟩ := md_ob h
    refine hp_callSl (As := [.int t1, .int t0]) (rest := [.ref (ad 7 a1)]) cx hw (kc_X1_valueOf l D cA E _ ad _ hj oq sgq sgv hE n σ t1 t0 p1 e_p1) (cwS 2 cx.2.2.2.2.2.1 (cd_giS cm_154 cm_155 cm_130 cm_156) rfl rfl rfl hdc_X1_valueOf ⟨Nat.le_of_ble_eq_true rfl, Nat.le_of_ble_eq_true rfl⟩) rfl hl.1 rfl (Nat.le_of_ble_eq_true rfl) dX1_compareSame_54 ⟨by (try dsimp only); omega, by (try dsimp only); omega⟩ (fun r u H locs hp hw => ?_)
    obtain ⟨rfl, ca, hj, rfl⟩ := hp
    obtain ⟨p2, e_p2, h⟩ := md_ob h
    obtain ⟨hm3, hn3, h⟩ := cd_cks h
    have hM3 : p.2.2.1 ≤ p2.2.2.1 ∧ p.2.2.2 ≤ p2.2.2.2 := ⟨hm3, hn3⟩
    have hle2 := (kc_X1_push l D cA E sz ad _ hj oq sgq sgv hE n p1.2 b a1 (p1.1) (show _ < 8 by omega) p2 e_p2).1
    refine hp_callSi (As := [.ref (ad 7 a1), .long p1.1]) (rest := []) cx hw ((kc_X1_push l D cA E _ ad _ hj oq sgq sgv hE n p1.2 b a1 (p1.1) (show _ < 8 by omega) p2 e_p2).2) (cwS 2 cx.2.2.2.2.2.1 (cd_giS cm_157 cm_158 cm_130 cm_159) rfl rfl rfl hdc_X1_push ⟨Nat.le_of_ble_eq_true rfl, Nat.le_of_ble_eq_true rfl⟩) rfl hl.1 rfl (Nat.le_of_ble_eq_true rfl) dX1_compareSame_57 ⟨by (try dsimp only); omega, by (try dsimp only); omega⟩ (fun r u H locs hp hw => ?_)
    obtain ⟨rfl, ca, hj, rfl⟩ := hp
    refine W.widen (k := b0.1 - p2.2.2.1) (n := b0.2 - p2.2.2.2) (by omega) (by omega) ?_
    exact hp_iret cx hw (cd_retb hj h) dX1_compareSame_60 (cd_le1 h) (cd_le2 h)
  have J34 : ∀ (ca : Nat → Nat) (hj : cd_inj ad ca) (σ : cd_S) (b : cd_B) (H : Heap) (locs : List Loc) (ls : Array Slot), b.1 ≤ b0.1 → b.2 ≤ b0.2 → p.2.2.1 ≤ b.1 → p.2.2.2 ≤ b.2 → f_X1_compareSame_J34 n a1 σ b = some p → hp_w D vwCl (hp_Tl cA) E (hp_A (cd_pic cA ad ca0 σ0) sz) ss H locs (cd_pic cA ad ca σ) → lv_has ls 6 [(1, .ref (ad 7 a1))] → W pp l ee ({ frames := 5, cells := b0.1 - p.2.2.1, slots := b0.2 - p.2.2.2, locals := 133 }) ss mm [.ref (ad 1 0), .ref (ad 7 a1)].toArray bb mt cd H locs (b0.1 - b.1) (b0.2 - b.2) (MQ bb (hp_Qi D vwCl (hp_Tl cA) sz (cd_pic cA ad ca0 σ0) (fun r u => r = p.1 ∧ ∃ ca1, cd_inj ad ca1 ∧ u = cd_pic cA ad ca1 p.2.1)) [.ref (ad 1 0), .ref (ad 7 a1)].toArray ss (b0.1 - p.2.2.1) (b0.2 - p.2.2.2) (hp_A (cd_pic cA ad ca0 σ0) sz)) (F0 mm 34 ls []) := by
    intro ca hj σ b H locs ls hb1 hb2 hf1 hf2 h hw hl
    refine lv_aload_n cx.1 cx.2.1 dX1_compareSame_34 rfl (lv_at hl 0 rfl) ?_
    refine lv_iconst (v := 5) cx.1 cx.2.1 dX1_compareSame_35 (by decide) ?_
    obtain ⟨p4, e_p4, h⟩ := md_ob h
    refine hp_callSi (As := [.ref (ad 7 a1), .int 5]) (rest := []) cx hw (kc_X1_fail l D cA E _ ad _ hj oq sgq sgv hE n σ a1 (5 : Int32) (show _ < 8 by omega) p4 e_p4) (cwS 2 cx.2.2.2.2.2.1 (cd_giS cm_132 cm_133 cm_130 cm_134) rfl rfl rfl hdc_X1_fail ⟨Nat.le_of_ble_eq_true rfl, Nat.le_of_ble_eq_true rfl⟩) rfl hl.1 rfl (Nat.le_of_ble_eq_true rfl) dX1_compareSame_36 ⟨by (try dsimp only); omega, by (try dsimp only); omega⟩ (fun r u H locs hp hw => ?_)
    obtain ⟨rfl, ca, hj, rfl⟩ := hp
    exact hp_iret cx hw (cd_retb hj h) dX1_compareSame_39 (cd_le1 h) (cd_le2 h)
  refine lv_aload_n cx.1 cx.2.1 dX1_compareSame_0 rfl (lv_at hl 1 rfl) ?_
  refine cd_gO (o2 := 6) (e2 := (9 + 1 * a1)) (o := 7) (k := 6) (f := 230) hj cx hw hic7 rfl ⟨by decide, rfl, by decide, rfl⟩ rfl (show _ < 8 by omega) ⟨rfl, rfl⟩ (List.mem_cons_of_mem _ cm_89) dX1_compareSame_1 ?_
  obtain ⟨p5, e_p5, h⟩ := md_ob h
  refine hp_callVl (As := []) (rest := []) cx hw (kc_X6_pop l D cA E _ ad _ hj oq sgq sgv hE n σ0 ((9 + 1 * a1)) (show _ < 197 by omega) p5 e_p5) (cwV 0 cx.2.2.2.2.2.1 (cd_giV cm_345 cm_346 cm_347 cm_5 cm_348) rfl rfl rfl hdc_X6_pop ⟨Nat.le_of_ble_eq_true rfl, Nat.le_of_ble_eq_true rfl⟩) (cd_atO hj (by decide) (show _ < 197 by omega)) rfl rfl hl.1 rfl (Nat.le_of_ble_eq_true rfl) dX1_compareSame_4 ⟨by (try dsimp only); omega, by (try dsimp only); omega⟩ (fun r u H locs hp hw => ?_)
  obtain ⟨rfl, ca, hj, rfl⟩ := hp
  refine lv_lstore_n (lv' := [(2, .long p5.1), (0, .ref (ad 1 0)), (1, .ref (ad 7 a1))]) cx.1 cx.2.1 dX1_compareSame_7 rfl hl (by decide) rfl (fun ls hl => ?_)
  refine lv_aload_n cx.1 cx.2.1 dX1_compareSame_8 rfl (lv_at hl 2 rfl) ?_
  refine cd_gO (o2 := 6) (e2 := (9 + 1 * a1)) (o := 7) (k := 6) (f := 230) hj cx hw hic7 rfl ⟨by decide, rfl, by decide, rfl⟩ rfl (show _ < 8 by omega) ⟨rfl, rfl⟩ (List.mem_cons_of_mem _ cm_89) dX1_compareSame_9 ?_
  obtain ⟨p6, e_p6, h⟩ := md_ob h
  refine hp_callVl (As := []) (rest := []) cx hw (kc_X6_pop l D cA E _ ad _ hj oq sgq sgv hE n p5.2 ((9 + 1 * a1)) (show _ < 197 by omega) p6 e_p6) (cwV 0 cx.2.2.2.2.2.1 (cd_giV cm_345 cm_346 cm_347 cm_5 cm_348) rfl rfl rfl hdc_X6_pop ⟨Nat.le_of_ble_eq_true rfl, Nat.le_of_ble_eq_true rfl⟩) (cd_atO hj (by decide) (show _ < 197 by omega)) rfl rfl hl.1 rfl (Nat.le_of_ble_eq_true rfl) dX1_compareSame_12 ⟨by (try dsimp only); omega, by (try dsimp only); omega⟩ (fun r u H locs hp hw => ?_)
  obtain ⟨rfl, ca, hj, rfl⟩ := hp
  refine lv_lstore (lv' := [(4, .long p6.1), (2, .long p5.1), (0, .ref (ad 1 0)), (1, .ref (ad 7 a1))]) cx.1 cx.2.1 dX1_compareSame_15 hl (by decide) rfl (fun ls hl => ?_)
  refine lv_lload cx.1 cx.2.1 dX1_compareSame_17 (lv_at hl 0 rfl) ?_
  obtain ⟨p7, e_p7, h⟩ := md_ob h
  refine hp_callSi (As := [.long p6.1]) (rest := []) cx hw (kc_X1_sortOf l D cA E _ ad _ hj oq sgq sgv hE n p6.2 (p6.1) p7 e_p7) (cwS 1 cx.2.2.2.2.2.1 (cd_giS cm_279 cm_244 cm_130 cm_245) rfl rfl rfl hdc_X1_sortOf ⟨Nat.le_of_ble_eq_true rfl, Nat.le_of_ble_eq_true rfl⟩) rfl hl.1 rfl (Nat.le_of_ble_eq_true rfl) dX1_compareSame_19 ⟨by (try dsimp only); omega, by (try dsimp only); omega⟩ (fun r u H locs hp hw => ?_)
  obtain ⟨rfl, ca, hj, rfl⟩ := hp
  refine lv_iconst (v := 2) cx.1 cx.2.1 dX1_compareSame_22 (by decide) ?_
  refine lv_icmp_gt (tgt := 34) cx.1 cx.2.1 dX1_compareSame_23 (by decide) (fun c23 => ?_) (fun c23 => ?_)
  · have h := md_ip c23 h
    exact J34 _ hj p7.2 b0 _ _ _ (by omega) (by omega) (by omega) (by omega) h hw (lv_sub hl [3] rfl)
  · have h := md_in c23 h
    refine lv_lload_n cx.1 cx.2.1 dX1_compareSame_26 rfl (lv_at hl 1 rfl) ?_
    obtain ⟨p8, e_p8, h⟩ := md_ob h
    refine hp_callSi (As := [.long p5.1]) (rest := []) cx hw (kc_X1_sortOf l D cA E _ ad _ hj oq sgq sgv hE n p7.2 (p5.1) p8 e_p8) (cwS 1 cx.2.2.2.2.2.1 (cd_giS cm_279 cm_244 cm_130 cm_245) rfl rfl rfl hdc_X1_sortOf ⟨Nat.le_of_ble_eq_true rfl, Nat.le_of_ble_eq_true rfl⟩) rfl hl.1 rfl (Nat.le_of_ble_eq_true rfl) dX1_compareSame_27 ⟨by (try dsimp only); omega, by (try dsimp only); omega⟩ (fun r u H locs hp hw => ?_)
    obtain ⟨rfl, ca, hj, rfl⟩ := hp
    refine lv_iconst (v := 2) cx.1 cx.2.1 dX1_compareSame_30 (by decide) ?_
    refine lv_icmp_le (tgt := 40) cx.1 cx.2.1 dX1_compareSame_31 (by decide) (fun c31 => ?_) (fun c31 => ?_)
    · have h := md_ip c31 h
      refine lv_aload_n cx.1 cx.2.1 dX1_compareSame_40 rfl (lv_at hl 3 rfl) ?_
      refine lv_iconst (v := 0) cx.1 cx.2.1 dX1_compareSame_41 (by decide) ?_
      refine lv_lload cx.1 cx.2.1 dX1_compareSame_42 (lv_at hl 0 rfl) ?_
      refine lv_lload_n cx.1 cx.2.1 dX1_compareSame_44 rfl (lv_at hl 1 rfl) ?_
      refine W.lcmp cx.1 cx.2.1 dX1_compareSame_45 ?_
      refine lv_if_ne (tgt := 53) cx.1 cx.2.1 dX1_compareSame_46 (by decide) (fun c46 => ?_) (fun c46 => ?_)
      · have h := md_in c46 h
        refine lv_iconst (v := 0) cx.1 cx.2.1 dX1_compareSame_53 (by decide) ?_
        exact J54 _ hj p8.2 b0 0 0 _ _ _ (by omega) (by omega) (by omega) (by omega) h hw (lv_sub hl [] rfl)
      · have h := md_ip c46 h
        refine lv_iconst (v := 1) cx.1 cx.2.1 dX1_compareSame_49 (by decide) ?_
        refine lv_goto (tgt := 54) cx.1 cx.2.1 dX1_compareSame_50 (by decide) ?_
        exact J54 _ hj p8.2 b0 1 0 _ _ _ (by omega) (by omega) (by omega) (by omega) h hw (lv_sub hl [] rfl)
    · have h := md_in c31 h
      exact J34 _ hj p8.2 b0 _ _ _ (by omega) (by omega) (by omega) (by omega) h hw (lv_sub hl [3] rfl)
set_option maxHeartbeats 4000000 in
set_option maxRecDepth 100000 in
theorem kc_X1_drop (l : Launch) (D : va_G) (cA : Nat → ClassId) (E : hp_N) (sz : Nat) (ad : Nat → Nat → Nat) (ca0 : Nat → Nat) (hj : cd_inj ad ca0) (oq sgq sgv : Nat) (hE : cd_E E oq sgq sgv) (n : Nat) (σ0 : cd_S) (a0 : Nat) (hb_a0 : a0 < 8) (p : (Int32 × cd_S)) (h : f_X1_drop n σ0 a0 = some p) : Met l yX1_drop (Cond.code yX1_drop cX1_drop 1 (some .int) :: v_CLS) ({ frames := 1, cells := 0, slots := 0, locals := 20 }) (hp_Pc D vwCl (hp_Tl cA) E sz (cd_pic cA ad ca0 σ0) [.ref (ad 7 a0)]) (hp_Qi D vwCl (hp_Tl cA) sz (cd_pic cA ad ca0 σ0) (fun r u => r = p.1 ∧ ∃ ca1, cd_inj ad ca1 ∧ u = cd_pic cA ad ca1 p.2)) 0 0 (hp_A (cd_pic cA ad ca0 σ0) sz) := by
  refine hp_ofW (cc := cX1_drop) (maxL := 1) (ret := (some .int)) (by decide) rfl (Nat.le_of_ble_eq_true rfl) ?_
  intro pp ee ss mm bb mt cd ls cx hsz hw hl
  have hl : lv_has ls 1 [(0, .ref (ad 7 a0))] := hl
  refine lv_aload_n cx.1 cx.2.1 dX1_drop_0 rfl (lv_at hl 0 rfl) ?_
  refine cd_gO (o2 := 6) (e2 := (9 + 1 * a0)) (o := 7) (k := 6) (f := 230) hj cx hw hic7 rfl ⟨by decide, rfl, by decide, rfl⟩ rfl (show _ < 8 by omega) ⟨rfl, rfl⟩ (List.mem_cons_of_mem _ cm_89) dX1_drop_1 ?_
  obtain ⟨p1, e_p1, h⟩ := md_ob h
  refine hp_callVl (As := []) (rest := []) cx hw (kc_X6_pop l D cA E _ ad _ hj oq sgq sgv hE n σ0 ((9 + 1 * a0)) (show _ < 197 by omega) p1 e_p1) (cwV 0 cx.2.2.2.2.2.1 (cd_giV cm_345 cm_346 cm_347 cm_5 cm_348) rfl rfl rfl hdc_X6_pop ⟨Nat.le_of_ble_eq_true rfl, Nat.le_of_ble_eq_true rfl⟩) (cd_atO hj (by decide) (show _ < 197 by omega)) rfl rfl hl.1 rfl (Nat.le_of_ble_eq_true rfl) dX1_drop_4 ⟨Nat.le_refl _, Nat.le_refl _⟩ (fun r u H locs hp hw => ?_)
  obtain ⟨rfl, ca, hj, rfl⟩ := hp
  refine lv_pop2_2 cx.1 cx.2.1 dX1_drop_7 rfl ?_
  refine lv_iconst (v := 0) cx.1 cx.2.1 dX1_drop_8 (by decide) ?_
  exact hp_iret cx hw (cd_ret hj h) dX1_drop_9
set_option maxHeartbeats 4000000 in
set_option maxRecDepth 100000 in
theorem kc_X1_failWith (l : Launch) (D : va_G) (cA : Nat → ClassId) (E : hp_N) (sz : Nat) (ad : Nat → Nat → Nat) (ca0 : Nat → Nat) (hj : cd_inj ad ca0) (oq sgq sgv : Nat) (hE : cd_E E oq sgq sgv) (n : Nat) (σ0 : cd_S) (a1 : Nat) (hb_a1 : a1 < 8) (p : (Int32 × cd_S)) (h : f_X1_failWith n σ0 a1 = some p) : Met l yX1_failWith (Cond.code yX1_failWith cX1_failWith 4 (some .int) :: v_CLS) ({ frames := 1, cells := 0, slots := 0, locals := 21 }) (hp_Pc D vwCl (hp_Tl cA) E sz (cd_pic cA ad ca0 σ0) [.ref (ad 1 0), .ref (ad 7 a1)]) (hp_Qi D vwCl (hp_Tl cA) sz (cd_pic cA ad ca0 σ0) (fun r u => r = p.1 ∧ ∃ ca1, cd_inj ad ca1 ∧ u = cd_pic cA ad ca1 p.2)) 0 0 (hp_A (cd_pic cA ad ca0 σ0) sz) := by
  refine hp_ofW (cc := cX1_failWith) (maxL := 4) (ret := (some .int)) (by decide) rfl (Nat.le_of_ble_eq_true rfl) ?_
  intro pp ee ss mm bb mt cd ls cx hsz hw hl
  have hl : lv_has ls 4 [(0, .ref (ad 1 0)), (1, .ref (ad 7 a1))] := hl
  have J22 : ∀ (ca : Nat → Nat) (hj : cd_inj ad ca) (σ : cd_S) (t0 : Int32) (H : Heap) (locs : List Loc) (ls : Array Slot), f_X1_failWith_J22 n a1 σ t0 = some p → hp_w D vwCl (hp_Tl cA) E (hp_A (cd_pic cA ad ca0 σ0) sz) ss H locs (cd_pic cA ad ca σ) → lv_has ls 4 [] → W pp l ee ({ frames := 1, cells := 0, slots := 0, locals := 21 }) ss mm [.ref (ad 1 0), .ref (ad 7 a1)].toArray bb mt cd H locs 0 0 (MQ bb (hp_Qi D vwCl (hp_Tl cA) sz (cd_pic cA ad ca0 σ0) (fun r u => r = p.1 ∧ ∃ ca1, cd_inj ad ca1 ∧ u = cd_pic cA ad ca1 p.2)) [.ref (ad 1 0), .ref (ad 7 a1)].toArray ss 0 0 (hp_A (cd_pic cA ad ca0 σ0) sz)) (F0 mm 22 ls [.int t0, .ref (ad 7 a1)]) := by
    intro ca hj σ t0 H locs ls h hw hl
    obtain ⟨p1, e_p1, h⟩ := md_ob h
    refine hp_callSi (As := [.ref (ad 7 a1), .int t0]) (rest := []) cx hw (kc_X1_fail l D cA E _ ad _ hj oq sgq sgv hE n σ a1 t0 (show _ < 8 by omega) p1 e_p1) (cwS 2 cx.2.2.2.2.2.1 (cd_giS cm_132 cm_133 cm_130 cm_134) rfl rfl rfl hdc_X1_fail ⟨Nat.le_of_ble_eq_true rfl, Nat.le_of_ble_eq_true rfl⟩) rfl hl.1 rfl (Nat.le_of_ble_eq_true rfl) dX1_failWith_22 ⟨Nat.le_refl _, Nat.le_refl _⟩ (fun r u H locs hp hw => ?_)
    obtain ⟨rfl, ca, hj, rfl⟩ := hp
    exact hp_iret cx hw (cd_ret hj h) dX1_failWith_25
  refine lv_aload_n cx.1 cx.2.1 dX1_failWith_0 rfl (lv_at hl 1 rfl) ?_
  refine cd_gO (o2 := 6) (e2 := (9 + 1 * a1)) (o := 7) (k := 6) (f := 230) hj cx hw hic7 rfl ⟨by decide, rfl, by decide, rfl⟩ rfl (show _ < 8 by omega) ⟨rfl, rfl⟩ (List.mem_cons_of_mem _ cm_89) dX1_failWith_1 ?_
  obtain ⟨p2, e_p2, h⟩ := md_ob h
  refine hp_callVl (As := []) (rest := []) cx hw (kc_X6_pop l D cA E _ ad _ hj oq sgq sgv hE n σ0 ((9 + 1 * a1)) (show _ < 197 by omega) p2 e_p2) (cwV 0 cx.2.2.2.2.2.1 (cd_giV cm_345 cm_346 cm_347 cm_5 cm_348) rfl rfl rfl hdc_X6_pop ⟨Nat.le_of_ble_eq_true rfl, Nat.le_of_ble_eq_true rfl⟩) (cd_atO hj (by decide) (show _ < 197 by omega)) rfl rfl hl.1 rfl (Nat.le_of_ble_eq_true rfl) dX1_failWith_4 ⟨Nat.le_refl _, Nat.le_refl _⟩ (fun r u H locs hp hw => ?_)
  obtain ⟨rfl, ca, hj, rfl⟩ := hp
  refine lv_lstore_n (lv' := [(2, .long p2.1), (0, .ref (ad 1 0)), (1, .ref (ad 7 a1))]) cx.1 cx.2.1 dX1_failWith_7 rfl hl (by decide) rfl (fun ls hl => ?_)
  refine lv_aload_n cx.1 cx.2.1 dX1_failWith_8 rfl (lv_at hl 2 rfl) ?_
  refine lv_lload_n cx.1 cx.2.1 dX1_failWith_9 rfl (lv_at hl 0 rfl) ?_
  obtain ⟨p3, e_p3, h⟩ := md_ob h
  refine hp_callSi (As := [.long p2.1]) (rest := [.ref (ad 7 a1)]) cx hw (kc_X1_sortOf l D cA E _ ad _ hj oq sgq sgv hE n p2.2 (p2.1) p3 e_p3) (cwS 1 cx.2.2.2.2.2.1 (cd_giS cm_279 cm_244 cm_130 cm_245) rfl rfl rfl hdc_X1_sortOf ⟨Nat.le_of_ble_eq_true rfl, Nat.le_of_ble_eq_true rfl⟩) rfl hl.1 rfl (Nat.le_of_ble_eq_true rfl) dX1_failWith_10 ⟨Nat.le_refl _, Nat.le_refl _⟩ (fun r u H locs hp hw => ?_)
  obtain ⟨rfl, ca, hj, rfl⟩ := hp
  refine lv_if_ne (tgt := 21) cx.1 cx.2.1 dX1_failWith_13 (by decide) (fun c13 => ?_) (fun c13 => ?_)
  · have h := md_in c13 h
    refine lv_iconst (v := 5) cx.1 cx.2.1 dX1_failWith_21 (by decide) ?_
    exact J22 _ hj p3.2 5 _ _ _ h hw (lv_sub hl [] rfl)
  · have h := md_ip c13 h
    refine lv_lload_n cx.1 cx.2.1 dX1_failWith_16 rfl (lv_at hl 0 rfl) ?_
    refine lv_l2i (v := (p2.1.toInt32)) cx.1 cx.2.1 dX1_failWith_17 rfl ?_
    refine lv_goto (tgt := 22) cx.1 cx.2.1 dX1_failWith_18 (by decide) ?_
    exact J22 _ hj p3.2 ((p2.1.toInt32)) _ _ _ h hw (lv_sub hl [] rfl)
set_option maxHeartbeats 4000000 in
set_option maxRecDepth 100000 in
theorem kc_X1_jump (l : Launch) (D : va_G) (cA : Nat → ClassId) (E : hp_N) (sz : Nat) (ad : Nat → Nat → Nat) (ca0 : Nat → Nat) (hj : cd_inj ad ca0) (oq sgq sgv : Nat) (hE : cd_E E oq sgq sgv) (n : Nat) (σ0 : cd_S) (a0 : Nat) (a1 : Int32) (hb_a0 : a0 < 8) (p : (Int32 × cd_S)) (h : f_X1_jump n σ0 a0 a1 = some p) : Met l yX1_jump (Cond.code yX1_jump cX1_jump 2 (some .int) :: v_CLS) ({ frames := 2, cells := 0, slots := 0, locals := 41 }) (hp_Pc D vwCl (hp_Tl cA) E sz (cd_pic cA ad ca0 σ0) [.ref (ad 7 a0), .int a1]) (hp_Qi D vwCl (hp_Tl cA) sz (cd_pic cA ad ca0 σ0) (fun r u => r = p.1 ∧ ∃ ca1, cd_inj ad ca1 ∧ u = cd_pic cA ad ca1 p.2)) 0 0 (hp_A (cd_pic cA ad ca0 σ0) sz) := by
  refine hp_ofW (cc := cX1_jump) (maxL := 2) (ret := (some .int)) (by decide) rfl (Nat.le_of_ble_eq_true rfl) ?_
  intro pp ee ss mm bb mt cd ls cx hsz hw hl
  have hl : lv_has ls 2 [(0, .ref (ad 7 a0)), (1, .int a1)] := hl
  refine lv_aload_n cx.1 cx.2.1 dX1_jump_0 rfl (lv_at hl 0 rfl) ?_
  refine lv_iload_n cx.1 cx.2.1 dX1_jump_1 rfl (lv_at hl 1 rfl) ?_
  obtain ⟨p1, e_p1, h⟩ := md_ob h
  refine hp_callVv (As := [.int a1]) (rest := []) cx hw (kc_X7_goTo l D cA E _ ad _ hj oq sgq sgv hE n σ0 a0 a1 (show _ < 8 by omega) p1 e_p1) (cwV 1 cx.2.2.2.2.2.1 (cd_giV cm_255 cm_256 cm_257 cm_94 cm_258) rfl rfl rfl hdc_X7_goTo ⟨Nat.le_of_ble_eq_true rfl, Nat.le_of_ble_eq_true rfl⟩) (cd_atO hj (by decide) (show _ < 8 by omega)) rfl rfl hl.1 rfl (Nat.le_of_ble_eq_true rfl) dX1_jump_2 ⟨Nat.le_refl _, Nat.le_refl _⟩ (fun u H locs hp hw => ?_)
  obtain ⟨ca, hj, rfl⟩ := hp
  refine lv_iconst (v := 0) cx.1 cx.2.1 dX1_jump_5 (by decide) ?_
  exact hp_iret cx hw (cd_ret hj h) dX1_jump_6
set_option maxHeartbeats 4000000 in
set_option maxRecDepth 100000 in
theorem kc_X1_jumpIfZero (l : Launch) (D : va_G) (cA : Nat → ClassId) (E : hp_N) (sz : Nat) (ad : Nat → Nat → Nat) (ca0 : Nat → Nat) (hj : cd_inj ad ca0) (oq sgq sgv : Nat) (hE : cd_E E oq sgq sgv) (n : Nat) (σ0 : cd_S) (a1 : Nat) (a2 : Int32) (hb_a1 : a1 < 8) (p : (Int32 × cd_S)) (h : f_X1_jumpIfZero n σ0 a1 a2 = some p) : Met l yX1_jumpIfZero (Cond.code yX1_jumpIfZero cX1_jumpIfZero 5 (some .int) :: v_CLS) ({ frames := 2, cells := 0, slots := 0, locals := 41 }) (hp_Pc D vwCl (hp_Tl cA) E sz (cd_pic cA ad ca0 σ0) [.ref (ad 1 0), .ref (ad 7 a1), .int a2]) (hp_Qi D vwCl (hp_Tl cA) sz (cd_pic cA ad ca0 σ0) (fun r u => r = p.1 ∧ ∃ ca1, cd_inj ad ca1 ∧ u = cd_pic cA ad ca1 p.2)) 0 0 (hp_A (cd_pic cA ad ca0 σ0) sz) := by
  refine hp_ofW (cc := cX1_jumpIfZero) (maxL := 5) (ret := (some .int)) (by decide) rfl (Nat.le_of_ble_eq_true rfl) ?_
  intro pp ee ss mm bb mt cd ls cx hsz hw hl
  have hl : lv_has ls 5 [(0, .ref (ad 1 0)), (1, .ref (ad 7 a1)), (2, .int a2)] := hl
  refine lv_aload_n cx.1 cx.2.1 dX1_jumpIfZero_0 rfl (lv_at hl 1 rfl) ?_
  refine cd_gO (o2 := 6) (e2 := (9 + 1 * a1)) (o := 7) (k := 6) (f := 230) hj cx hw hic7 rfl ⟨by decide, rfl, by decide, rfl⟩ rfl (show _ < 8 by omega) ⟨rfl, rfl⟩ (List.mem_cons_of_mem _ cm_89) dX1_jumpIfZero_1 ?_
  obtain ⟨p1, e_p1, h⟩ := md_ob h
  refine hp_callVl (As := []) (rest := []) cx hw (kc_X6_pop l D cA E _ ad _ hj oq sgq sgv hE n σ0 ((9 + 1 * a1)) (show _ < 197 by omega) p1 e_p1) (cwV 0 cx.2.2.2.2.2.1 (cd_giV cm_345 cm_346 cm_347 cm_5 cm_348) rfl rfl rfl hdc_X6_pop ⟨Nat.le_of_ble_eq_true rfl, Nat.le_of_ble_eq_true rfl⟩) (cd_atO hj (by decide) (show _ < 197 by omega)) rfl rfl hl.1 rfl (Nat.le_of_ble_eq_true rfl) dX1_jumpIfZero_4 ⟨Nat.le_refl _, Nat.le_refl _⟩ (fun r u H locs hp hw => ?_)
  obtain ⟨rfl, ca, hj, rfl⟩ := hp
  refine lv_lstore_n (lv' := [(3, .long p1.1), (0, .ref (ad 1 0)), (1, .ref (ad 7 a1)), (2, .int a2)]) cx.1 cx.2.1 dX1_jumpIfZero_7 rfl hl (by decide) rfl (fun ls hl => ?_)
  refine lv_lload_n cx.1 cx.2.1 dX1_jumpIfZero_8 rfl (lv_at hl 0 rfl) ?_
  obtain ⟨p2, e_p2, h⟩ := md_ob h
  refine hp_callSi (As := [.long p1.1]) (rest := []) cx hw (kc_X1_sortOf l D cA E _ ad _ hj oq sgq sgv hE n p1.2 (p1.1) p2 e_p2) (cwS 1 cx.2.2.2.2.2.1 (cd_giS cm_279 cm_244 cm_130 cm_245) rfl rfl rfl hdc_X1_sortOf ⟨Nat.le_of_ble_eq_true rfl, Nat.le_of_ble_eq_true rfl⟩) rfl hl.1 rfl (Nat.le_of_ble_eq_true rfl) dX1_jumpIfZero_9 ⟨Nat.le_refl _, Nat.le_refl _⟩ (fun r u H locs hp hw => ?_)
  obtain ⟨rfl, ca, hj, rfl⟩ := hp
  refine lv_if_eq (tgt := 21) cx.1 cx.2.1 dX1_jumpIfZero_12 (by decide) (fun c12 => ?_) (fun c12 => ?_)
  · have h := md_ip c12 h
    refine lv_lload_n cx.1 cx.2.1 dX1_jumpIfZero_21 rfl (lv_at hl 0 rfl) ?_
    refine lv_l2i (v := (p1.1.toInt32)) cx.1 cx.2.1 dX1_jumpIfZero_22 rfl ?_
    refine lv_if_ne (tgt := 31) cx.1 cx.2.1 dX1_jumpIfZero_23 (by decide) (fun c23 => ?_) (fun c23 => ?_)
    · have h := md_in c23 h
      refine lv_iconst (v := 0) cx.1 cx.2.1 dX1_jumpIfZero_31 (by decide) ?_
      exact hp_iret cx hw (cd_ret hj h) dX1_jumpIfZero_32
    · have h := md_ip c23 h
      refine lv_aload_n cx.1 cx.2.1 dX1_jumpIfZero_26 rfl (lv_at hl 2 rfl) ?_
      refine lv_iload_n cx.1 cx.2.1 dX1_jumpIfZero_27 rfl (lv_at hl 3 rfl) ?_
      obtain ⟨p3, e_p3, h⟩ := md_ob h
      refine hp_callVv (As := [.int a2]) (rest := []) cx hw (kc_X7_goTo l D cA E _ ad _ hj oq sgq sgv hE n p2.2 a1 a2 (show _ < 8 by omega) p3 e_p3) (cwV 1 cx.2.2.2.2.2.1 (cd_giV cm_255 cm_256 cm_257 cm_94 cm_258) rfl rfl rfl hdc_X7_goTo ⟨Nat.le_of_ble_eq_true rfl, Nat.le_of_ble_eq_true rfl⟩) (cd_atO hj (by decide) (show _ < 8 by omega)) rfl rfl hl.1 rfl (Nat.le_of_ble_eq_true rfl) dX1_jumpIfZero_28 ⟨Nat.le_refl _, Nat.le_refl _⟩ (fun u H locs hp hw => ?_)
      obtain ⟨ca, hj, rfl⟩ := hp
      refine lv_iconst (v := 0) cx.1 cx.2.1 dX1_jumpIfZero_31 (by decide) ?_
      exact hp_iret cx hw (cd_ret hj h) dX1_jumpIfZero_32
  · have h := md_in c12 h
    refine lv_aload_n cx.1 cx.2.1 dX1_jumpIfZero_15 rfl (lv_at hl 2 rfl) ?_
    refine lv_iconst (v := 5) cx.1 cx.2.1 dX1_jumpIfZero_16 (by decide) ?_
    obtain ⟨p4, e_p4, h⟩ := md_ob h
    refine hp_callSi (As := [.ref (ad 7 a1), .int 5]) (rest := []) cx hw (kc_X1_fail l D cA E _ ad _ hj oq sgq sgv hE n p2.2 a1 (5 : Int32) (show _ < 8 by omega) p4 e_p4) (cwS 2 cx.2.2.2.2.2.1 (cd_giS cm_132 cm_133 cm_130 cm_134) rfl rfl rfl hdc_X1_fail ⟨Nat.le_of_ble_eq_true rfl, Nat.le_of_ble_eq_true rfl⟩) rfl hl.1 rfl (Nat.le_of_ble_eq_true rfl) dX1_jumpIfZero_17 ⟨Nat.le_refl _, Nat.le_refl _⟩ (fun r u H locs hp hw => ?_)
    obtain ⟨rfl, ca, hj, rfl⟩ := hp
    exact hp_iret cx hw (cd_ret hj h) dX1_jumpIfZero_20
