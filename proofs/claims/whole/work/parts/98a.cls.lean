set_option maxHeartbeats 4000000 in
set_option maxRecDepth 100000 in
theorem kc_J7_fill_3 (l : Launch) (D : va_G) (cA : Nat → ClassId) (E : hp_N) (sz : Nat) (ad : Nat → Nat → Nat) (ca0 : Nat → Nat) (hj : cd_inj ad ca0) (oq sgq sgv : Nat) (hE : cd_E E oq sgq sgv) (n : Nat) (σ0 : cd_S) (a1 : Int32) (p : (Int32 × cd_S)) (h : f_J7_fill_3 n σ0 a1 = some p) : Met l yJ7_fill_53178 (Cond.code yJ7_fill_53178 cJ7_fill_53178 4 none :: v_CLS) ({ frames := 0, cells := 0, slots := 0, locals := 0 }) (hp_Pc D vwCl (hp_Tl cA) E sz (cd_pic cA ad ca0 σ0) [.ref (ad 103 0), .int a1]) (hp_Qv D vwCl (hp_Tl cA) sz (cd_pic cA ad ca0 σ0) (fun u => ∃ ca1, cd_inj ad ca1 ∧ u = cd_pic cA ad ca1 p.2)) 0 0 (hp_A (cd_pic cA ad ca0 σ0) sz) := by
  refine hp_ofW (cc := cJ7_fill_53178) (maxL := 4) (ret := none) (by decide) rfl (Nat.le_of_ble_eq_true rfl) ?_
  intro pp ee ss mm bb mt cd ls cx hsz hw hl
  have hl : lv_has ls 4 [(0, .ref (ad 103 0)), (1, .int a1)] := hl
  refine lv_iconst (v := 0) cx.1 cx.2.1 dJ7_fill_53178_0 (by decide) ?_
  refine lv_istore_n (lv' := [(2, .int 0), (0, .ref (ad 103 0)), (1, .int a1)]) cx.1 cx.2.1 dJ7_fill_53178_1 rfl hl (by decide) rfl (fun ls hl => ?_)
  refine lv_aload_n cx.1 cx.2.1 dJ7_fill_53178_2 rfl (lv_at hl 1 rfl) ?_
  refine cd_len (f := 3) (v := 256) hj cx hw (by decide) (by decide) (by decide) (by decide) (by decide) rfl dJ7_fill_53178_3 ?_
  refine lv_istore_n (lv' := [(3, .int 256), (2, .int 0), (0, .ref (ad 103 0)), (1, .int a1)]) cx.1 cx.2.1 dJ7_fill_53178_4 rfl hl (by decide) rfl (fun ls hl => ?_)
  have L5 : ∀ (j : Nat) (ca : Nat → Nat) (hj : cd_inj ad ca) (σ : cd_S) (l1 : Int32) (l3 : Int32) (l2 : Int32) (q : (cd_S × Int32)) (H : Heap) (locs : List Loc) (ls : Array Slot), f_J7_fill_3_L5 n l1 l3 j σ l2 = some q → hp_w D vwCl (hp_Tl cA) E (hp_A (cd_pic cA ad ca0 σ0) sz) ss H locs (cd_pic cA ad ca σ) → lv_has ls 4 [(0, .ref (ad 103 0)), (1, .int l1), (2, .int l2), (3, .int l3)] → (∀ (ca : Nat → Nat) (hj : cd_inj ad ca) (H : Heap) (locs : List Loc) (ls : Array Slot), hp_w D vwCl (hp_Tl cA) E (hp_A (cd_pic cA ad ca0 σ0) sz) ss H locs (cd_pic cA ad ca q.1) → lv_has ls 4 [] → W pp l ee ({ frames := 0, cells := 0, slots := 0, locals := 0 }) ss mm [.ref (ad 103 0), .int a1].toArray bb mt cd H locs 0 0 (MQ bb (hp_Qv D vwCl (hp_Tl cA) sz (cd_pic cA ad ca0 σ0) (fun u => ∃ ca1, cd_inj ad ca1 ∧ u = cd_pic cA ad ca1 p.2)) [.ref (ad 103 0), .int a1].toArray ss 0 0 (hp_A (cd_pic cA ad ca0 σ0) sz)) (F0 mm 20 ls [])) → W pp l ee ({ frames := 0, cells := 0, slots := 0, locals := 0 }) ss mm [.ref (ad 103 0), .int a1].toArray bb mt cd H locs 0 0 (MQ bb (hp_Qv D vwCl (hp_Tl cA) sz (cd_pic cA ad ca0 σ0) (fun u => ∃ ca1, cd_inj ad ca1 ∧ u = cd_pic cA ad ca1 p.2)) [.ref (ad 103 0), .int a1].toArray ss 0 0 (hp_A (cd_pic cA ad ca0 σ0) sz)) (F0 mm 5 ls []) := by
    intro j
    induction j with
    | zero => intro ca hj σ l1 l3 l2 q H locs ls h; exact nomatch h
    | succ j ih =>
      intro ca hj σ l1 l3 l2 q H locs ls h hw hl K
      unfold f_J7_fill_3_L5 at h
      refine lv_iload_n cx.1 cx.2.1 dJ7_fill_53178_5 rfl (lv_at hl 2 rfl) ?_
      refine lv_iload_n cx.1 cx.2.1 dJ7_fill_53178_6 rfl (lv_at hl 3 rfl) ?_
      refine lv_icmp_ge (tgt := 20) cx.1 cx.2.1 dJ7_fill_53178_7 (by decide) (fun c7 => ?_) (fun c7 => ?_)
      · have h := md_ip c7 h
        obtain rfl := Option.some.inj h
        exact K _ hj _ _ _ hw (lv_sub hl [] rfl)
      · have h := md_in c7 h
        refine lv_aload_n cx.1 cx.2.1 dJ7_fill_53178_10 rfl (lv_at hl 0 rfl) ?_
        refine lv_iload_n cx.1 cx.2.1 dJ7_fill_53178_11 rfl (lv_at hl 2 rfl) ?_
        refine lv_iload_n cx.1 cx.2.1 dJ7_fill_53178_12 rfl (lv_at hl 1 rfl) ?_
        obtain ⟨σ1, e_σ1, h⟩ := md_ob h
        refine cd_sI (f := 3) hj cx hw (by decide) (by decide) rfl e_σ1 dJ7_fill_53178_13 (fun H locs hw => ?_)
        refine lv_iinc (v := (l2 + 1)) (lv' := [(2, .int (l2 + 1)), (0, .ref (ad 103 0)), (1, .int l1), (3, .int l3)]) cx.1 cx.2.1 dJ7_fill_53178_14 hl (k := 2) rfl rfl (by decide) rfl (fun ls hl => ?_)
        refine lv_goto (tgt := 5) cx.1 cx.2.1 dJ7_fill_53178_17 (by decide) ?_
        exact ih _ hj σ1 l1 l3 ((l2 + 1)) q _ _ _ h hw (lv_sub hl [1, 2, 0, 3] rfl) K
  obtain ⟨q2, e_q2, h⟩ := md_ob h
  refine L5 n _ hj σ0 a1 256 0 q2 _ _ _ e_q2 hw (lv_sub hl [2, 3, 1, 0] rfl) (fun ca hj H locs ls hw hl => ?_)
  exact hp_vret cx hw ((cd_ret hj h).2) dJ7_fill_53178_20
set_option maxHeartbeats 4000000 in
set_option maxRecDepth 100000 in
theorem kc_J7_fill_257 (l : Launch) (D : va_G) (cA : Nat → ClassId) (E : hp_N) (sz : Nat) (ad : Nat → Nat → Nat) (ca0 : Nat → Nat) (hj : cd_inj ad ca0) (oq sgq sgv : Nat) (hE : cd_E E oq sgq sgv) (n : Nat) (σ0 : cd_S) (a1 : Int32) (p : (Int32 × cd_S)) (h : f_J7_fill_257 n σ0 a1 = some p) : Met l yJ7_fill_53178 (Cond.code yJ7_fill_53178 cJ7_fill_53178 4 none :: v_CLS) ({ frames := 0, cells := 0, slots := 0, locals := 0 }) (hp_Pc D vwCl (hp_Tl cA) E sz (cd_pic cA ad ca0 σ0) [.ref (ad 357 0), .int a1]) (hp_Qv D vwCl (hp_Tl cA) sz (cd_pic cA ad ca0 σ0) (fun u => ∃ ca1, cd_inj ad ca1 ∧ u = cd_pic cA ad ca1 p.2)) 0 0 (hp_A (cd_pic cA ad ca0 σ0) sz) := by
  refine hp_ofW (cc := cJ7_fill_53178) (maxL := 4) (ret := none) (by decide) rfl (Nat.le_of_ble_eq_true rfl) ?_
  intro pp ee ss mm bb mt cd ls cx hsz hw hl
  have hl : lv_has ls 4 [(0, .ref (ad 357 0)), (1, .int a1)] := hl
  refine lv_iconst (v := 0) cx.1 cx.2.1 dJ7_fill_53178_0 (by decide) ?_
  refine lv_istore_n (lv' := [(2, .int 0), (0, .ref (ad 357 0)), (1, .int a1)]) cx.1 cx.2.1 dJ7_fill_53178_1 rfl hl (by decide) rfl (fun ls hl => ?_)
  refine lv_aload_n cx.1 cx.2.1 dJ7_fill_53178_2 rfl (lv_at hl 1 rfl) ?_
  refine cd_len (f := 257) (v := 60) hj cx hw (by decide) (by decide) (by decide) (by decide) (by decide) rfl dJ7_fill_53178_3 ?_
  refine lv_istore_n (lv' := [(3, .int 60), (2, .int 0), (0, .ref (ad 357 0)), (1, .int a1)]) cx.1 cx.2.1 dJ7_fill_53178_4 rfl hl (by decide) rfl (fun ls hl => ?_)
  have L5 : ∀ (j : Nat) (ca : Nat → Nat) (hj : cd_inj ad ca) (σ : cd_S) (l1 : Int32) (l3 : Int32) (l2 : Int32) (q : (cd_S × Int32)) (H : Heap) (locs : List Loc) (ls : Array Slot), f_J7_fill_257_L5 n l1 l3 j σ l2 = some q → hp_w D vwCl (hp_Tl cA) E (hp_A (cd_pic cA ad ca0 σ0) sz) ss H locs (cd_pic cA ad ca σ) → lv_has ls 4 [(0, .ref (ad 357 0)), (1, .int l1), (2, .int l2), (3, .int l3)] → (∀ (ca : Nat → Nat) (hj : cd_inj ad ca) (H : Heap) (locs : List Loc) (ls : Array Slot), hp_w D vwCl (hp_Tl cA) E (hp_A (cd_pic cA ad ca0 σ0) sz) ss H locs (cd_pic cA ad ca q.1) → lv_has ls 4 [] → W pp l ee ({ frames := 0, cells := 0, slots := 0, locals := 0 }) ss mm [.ref (ad 357 0), .int a1].toArray bb mt cd H locs 0 0 (MQ bb (hp_Qv D vwCl (hp_Tl cA) sz (cd_pic cA ad ca0 σ0) (fun u => ∃ ca1, cd_inj ad ca1 ∧ u = cd_pic cA ad ca1 p.2)) [.ref (ad 357 0), .int a1].toArray ss 0 0 (hp_A (cd_pic cA ad ca0 σ0) sz)) (F0 mm 20 ls [])) → W pp l ee ({ frames := 0, cells := 0, slots := 0, locals := 0 }) ss mm [.ref (ad 357 0), .int a1].toArray bb mt cd H locs 0 0 (MQ bb (hp_Qv D vwCl (hp_Tl cA) sz (cd_pic cA ad ca0 σ0) (fun u => ∃ ca1, cd_inj ad ca1 ∧ u = cd_pic cA ad ca1 p.2)) [.ref (ad 357 0), .int a1].toArray ss 0 0 (hp_A (cd_pic cA ad ca0 σ0) sz)) (F0 mm 5 ls []) := by
    intro j
    induction j with
    | zero => intro ca hj σ l1 l3 l2 q H locs ls h; exact nomatch h
    | succ j ih =>
      intro ca hj σ l1 l3 l2 q H locs ls h hw hl K
      unfold f_J7_fill_257_L5 at h
      refine lv_iload_n cx.1 cx.2.1 dJ7_fill_53178_5 rfl (lv_at hl 2 rfl) ?_
      refine lv_iload_n cx.1 cx.2.1 dJ7_fill_53178_6 rfl (lv_at hl 3 rfl) ?_
      refine lv_icmp_ge (tgt := 20) cx.1 cx.2.1 dJ7_fill_53178_7 (by decide) (fun c7 => ?_) (fun c7 => ?_)
      · have h := md_ip c7 h
        obtain rfl := Option.some.inj h
        exact K _ hj _ _ _ hw (lv_sub hl [] rfl)
      · have h := md_in c7 h
        refine lv_aload_n cx.1 cx.2.1 dJ7_fill_53178_10 rfl (lv_at hl 0 rfl) ?_
        refine lv_iload_n cx.1 cx.2.1 dJ7_fill_53178_11 rfl (lv_at hl 2 rfl) ?_
        refine lv_iload_n cx.1 cx.2.1 dJ7_fill_53178_12 rfl (lv_at hl 1 rfl) ?_
        obtain ⟨σ1, e_σ1, h⟩ := md_ob h
        refine cd_sI (f := 257) hj cx hw (by decide) (by decide) rfl e_σ1 dJ7_fill_53178_13 (fun H locs hw => ?_)
        refine lv_iinc (v := (l2 + 1)) (lv' := [(2, .int (l2 + 1)), (0, .ref (ad 357 0)), (1, .int l1), (3, .int l3)]) cx.1 cx.2.1 dJ7_fill_53178_14 hl (k := 2) rfl rfl (by decide) rfl (fun ls hl => ?_)
        refine lv_goto (tgt := 5) cx.1 cx.2.1 dJ7_fill_53178_17 (by decide) ?_
        exact ih _ hj σ1 l1 l3 ((l2 + 1)) q _ _ _ h hw (lv_sub hl [1, 2, 0, 3] rfl) K
  obtain ⟨q2, e_q2, h⟩ := md_ob h
  refine L5 n _ hj σ0 a1 60 0 q2 _ _ _ e_q2 hw (lv_sub hl [2, 3, 1, 0] rfl) (fun ca hj H locs ls hw hl => ?_)
  exact hp_vret cx hw ((cd_ret hj h).2) dJ7_fill_53178_20
set_option maxHeartbeats 4000000 in
set_option maxRecDepth 100000 in
theorem kc_X6_cut (l : Launch) (D : va_G) (cA : Nat → ClassId) (E : hp_N) (sz : Nat) (ad : Nat → Nat → Nat) (ca0 : Nat → Nat) (hj : cd_inj ad ca0) (oq sgq sgv : Nat) (hE : cd_E E oq sgq sgv) (n : Nat) (σ0 : cd_S) (a0 : Nat) (a1 : Int32) (hb_a0 : a0 < 197) (p : (Int32 × cd_S)) (h : f_X6_cut n σ0 a0 a1 = some p) : Met l yX6_cut (Cond.code yX6_cut cX6_cut 2 none :: v_CLS) ({ frames := 0, cells := 0, slots := 0, locals := 0 }) (hp_Pc D vwCl (hp_Tl cA) E sz (cd_pic cA ad ca0 σ0) [.ref (ad 6 a0), .int a1]) (hp_Qv D vwCl (hp_Tl cA) sz (cd_pic cA ad ca0 σ0) (fun u => ∃ ca1, cd_inj ad ca1 ∧ u = cd_pic cA ad ca1 p.2)) 0 0 (hp_A (cd_pic cA ad ca0 σ0) sz) := by
  refine hp_ofW (cc := cX6_cut) (maxL := 2) (ret := none) (by decide) rfl (Nat.le_of_ble_eq_true rfl) ?_
  intro pp ee ss mm bb mt cd ls cx hsz hw hl
  have hl : lv_has ls 2 [(0, .ref (ad 6 a0)), (1, .int a1)] := hl
  refine lv_iload_n cx.1 cx.2.1 dX6_cut_0 rfl (lv_at hl 1 rfl) ?_
  refine lv_if_lt (tgt := 17) cx.1 cx.2.1 dX6_cut_1 (by decide) (fun c1 => ?_) (fun c1 => ?_)
  · have h := md_ip c1 h
    exact hp_vret cx hw ((cd_ret hj h).2) dX6_cut_17
  · have h := md_in c1 h
    refine lv_iload_n cx.1 cx.2.1 dX6_cut_4 rfl (lv_at hl 1 rfl) ?_
    refine lv_aload_n cx.1 cx.2.1 dX6_cut_5 rfl (lv_at hl 0 rfl) ?_
    refine cd_gI (o := 6) (k := 1) (f := 193) hj cx hw hic6 rfl ⟨by decide, rfl, by decide, rfl⟩ rfl (show _ < 197 by omega) (List.mem_cons_of_mem _ cm_0) dX6_cut_6 ?_
    refine lv_icmp_ge (tgt := 17) cx.1 cx.2.1 dX6_cut_9 (by decide) (fun c9 => ?_) (fun c9 => ?_)
    · have h := md_ip c9 h
      exact hp_vret cx hw ((cd_ret hj h).2) dX6_cut_17
    · have h := md_in c9 h
      refine lv_aload_n cx.1 cx.2.1 dX6_cut_12 rfl (lv_at hl 0 rfl) ?_
      refine lv_iload_n cx.1 cx.2.1 dX6_cut_13 rfl (lv_at hl 1 rfl) ?_
      obtain ⟨σ1, e_σ1, h⟩ := md_ob h
      refine cd_pI (o := 6) (k := 1) (f := 193) hj cx hw hic6 rfl ⟨by decide, rfl, by decide, rfl⟩ tyX6_ok nmX6 rfl (show _ < 197 by omega) rfl (List.mem_cons_of_mem _ cm_0) rfl e_σ1 dX6_cut_14 (fun H locs hw => ?_)
      exact hp_vret cx hw ((cd_ret hj h).2) dX6_cut_17
set_option maxHeartbeats 4000000 in
set_option maxRecDepth 100000 in
theorem kc_X0_clear (l : Launch) (D : va_G) (cA : Nat → ClassId) (E : hp_N) (sz : Nat) (ad : Nat → Nat → Nat) (ca0 : Nat → Nat) (hj : cd_inj ad ca0) (oq sgq sgv : Nat) (hE : cd_E E oq sgq sgv) (n : Nat) (σ0 : cd_S) (p : (Int32 × cd_S)) (h : f_X0_clear n σ0 = some p) : Met l yX0_clear (Cond.code yX0_clear cX0_clear 1 none :: v_CLS) ({ frames := 1, cells := 0, slots := 0, locals := 29 }) (hp_Pc D vwCl (hp_Tl cA) E sz (cd_pic cA ad ca0 σ0) [.ref (ad 0 0)]) (hp_Qv D vwCl (hp_Tl cA) sz (cd_pic cA ad ca0 σ0) (fun u => ∃ ca1, cd_inj ad ca1 ∧ u = cd_pic cA ad ca1 p.2)) 0 0 (hp_A (cd_pic cA ad ca0 σ0) sz) := by
  refine hp_ofW (cc := cX0_clear) (maxL := 1) (ret := none) (by decide) rfl (Nat.le_of_ble_eq_true rfl) ?_
  intro pp ee ss mm bb mt cd ls cx hsz hw hl
  have hl : lv_has ls 1 [(0, .ref (ad 0 0))] := hl
  refine lv_aload_n cx.1 cx.2.1 dX0_clear_0 rfl (lv_at hl 0 rfl) ?_
  refine cd_gO (o2 := 6) (e2 := 2) (o := 0) (k := 0) (f := 0) hj cx hw hic0 rfl ⟨by decide, rfl, by decide, rfl⟩ rfl (by decide) ⟨rfl, rfl⟩ (List.mem_cons_of_mem _ cm_1) dX0_clear_1 ?_
  refine lv_iconst (v := 0) cx.1 cx.2.1 dX0_clear_4 (by decide) ?_
  obtain ⟨p1, e_p1, h⟩ := md_ob h
  refine hp_callVv (As := [.int 0]) (rest := []) cx hw (kc_X6_cut l D cA E _ ad _ hj oq sgq sgv hE n σ0 2 (0 : Int32) (by decide) p1 e_p1) (cwV 1 cx.2.2.2.2.2.1 (cd_giV cm_2 cm_3 cm_4 cm_5 cm_6) rfl rfl rfl hdc_X6_cut ⟨Nat.le_of_ble_eq_true rfl, Nat.le_of_ble_eq_true rfl⟩) (cd_atO hj (by decide) (by decide)) rfl rfl hl.1 rfl (Nat.le_of_ble_eq_true rfl) dX0_clear_5 ⟨Nat.le_refl _, Nat.le_refl _⟩ (fun u H locs hp hw => ?_)
  obtain ⟨ca, hj, rfl⟩ := hp
  refine lv_aload_n cx.1 cx.2.1 dX0_clear_8 rfl (lv_at hl 0 rfl) ?_
  refine cd_gO (o2 := 6) (e2 := 3) (o := 0) (k := 1) (f := 1) hj cx hw hic0 rfl ⟨by decide, rfl, by decide, rfl⟩ rfl (by decide) ⟨rfl, rfl⟩ (List.mem_cons_of_mem _ cm_7) dX0_clear_9 ?_
  refine lv_iconst (v := 0) cx.1 cx.2.1 dX0_clear_12 (by decide) ?_
  obtain ⟨p2, e_p2, h⟩ := md_ob h
  refine hp_callVv (As := [.int 0]) (rest := []) cx hw (kc_X6_cut l D cA E _ ad _ hj oq sgq sgv hE n p1.2 3 (0 : Int32) (by decide) p2 e_p2) (cwV 1 cx.2.2.2.2.2.1 (cd_giV cm_2 cm_3 cm_4 cm_5 cm_6) rfl rfl rfl hdc_X6_cut ⟨Nat.le_of_ble_eq_true rfl, Nat.le_of_ble_eq_true rfl⟩) (cd_atO hj (by decide) (by decide)) rfl rfl hl.1 rfl (Nat.le_of_ble_eq_true rfl) dX0_clear_13 ⟨Nat.le_refl _, Nat.le_refl _⟩ (fun u H locs hp hw => ?_)
  obtain ⟨ca, hj, rfl⟩ := hp
  refine lv_aload_n cx.1 cx.2.1 dX0_clear_16 rfl (lv_at hl 0 rfl) ?_
  refine cd_gO (o2 := 6) (e2 := 4) (o := 0) (k := 2) (f := 2) hj cx hw hic0 rfl ⟨by decide, rfl, by decide, rfl⟩ rfl (by decide) ⟨rfl, rfl⟩ (List.mem_cons_of_mem _ cm_8) dX0_clear_17 ?_
  refine lv_iconst (v := 0) cx.1 cx.2.1 dX0_clear_20 (by decide) ?_
  obtain ⟨p3, e_p3, h⟩ := md_ob h
  refine hp_callVv (As := [.int 0]) (rest := []) cx hw (kc_X6_cut l D cA E _ ad _ hj oq sgq sgv hE n p2.2 4 (0 : Int32) (by decide) p3 e_p3) (cwV 1 cx.2.2.2.2.2.1 (cd_giV cm_2 cm_3 cm_4 cm_5 cm_6) rfl rfl rfl hdc_X6_cut ⟨Nat.le_of_ble_eq_true rfl, Nat.le_of_ble_eq_true rfl⟩) (cd_atO hj (by decide) (by decide)) rfl rfl hl.1 rfl (Nat.le_of_ble_eq_true rfl) dX0_clear_21 ⟨Nat.le_refl _, Nat.le_refl _⟩ (fun u H locs hp hw => ?_)
  obtain ⟨ca, hj, rfl⟩ := hp
  refine lv_aload_n cx.1 cx.2.1 dX0_clear_24 rfl (lv_at hl 0 rfl) ?_
  refine cd_gA (o := 0) (k := 3) (f := 3) hj cx hw hic0 rfl ⟨by decide, rfl, by decide, rfl⟩ rfl (by decide) (List.mem_cons_of_mem _ cm_9) dX0_clear_25 ?_
  refine lv_iconst (v := (-1)) cx.1 cx.2.1 dX0_clear_28 (by decide) ?_
  obtain ⟨p4, e_p4, h⟩ := md_ob h
  refine hp_callSv (As := [.ref (ad 103 0), .int (-1)]) (rest := []) cx hw (kc_J7_fill_3 l D cA E _ ad _ hj oq sgq sgv hE n p3.2 (-1) p4 e_p4) (va_cwS 2 cx.2.2.2.2.2.1 (cd_giS cm_10 cm_11 cm_12 cm_13) rfl rfl rfl (cd_hdS hdc_J7_fill_53178) ⟨Nat.le_of_ble_eq_true rfl, Nat.le_of_ble_eq_true rfl⟩) rfl hl.1 rfl (Nat.le_of_ble_eq_true rfl) dX0_clear_29 ⟨Nat.le_refl _, Nat.le_refl _⟩ (fun u H locs hp hw => ?_)
  obtain ⟨ca, hj, rfl⟩ := hp
  exact hp_vret cx hw ((cd_ret hj h).2) dX0_clear_32
set_option maxHeartbeats 4000000 in
set_option maxRecDepth 100000 in
theorem kc_X0_made (l : Launch) (D : va_G) (cA : Nat → ClassId) (E : hp_N) (sz : Nat) (ad : Nat → Nat → Nat) (ca0 : Nat → Nat) (hj : cd_inj ad ca0) (oq sgq sgv : Nat) (hE : cd_E E oq sgq sgv) (n : Nat) (σ0 : cd_S) (p : (Int32 × cd_S)) (h : f_X0_made n σ0 = some p) : Met l yX0_made (Cond.code yX0_made cX0_made 1 (some .int) :: v_CLS) ({ frames := 0, cells := 0, slots := 0, locals := 0 }) (hp_Pc D vwCl (hp_Tl cA) E sz (cd_pic cA ad ca0 σ0) [.ref (ad 0 0)]) (hp_Qi D vwCl (hp_Tl cA) sz (cd_pic cA ad ca0 σ0) (fun r u => r = p.1 ∧ ∃ ca1, cd_inj ad ca1 ∧ u = cd_pic cA ad ca1 p.2)) 0 0 (hp_A (cd_pic cA ad ca0 σ0) sz) := by
  refine hp_ofW (cc := cX0_made) (maxL := 1) (ret := (some .int)) (by decide) rfl (Nat.le_of_ble_eq_true rfl) ?_
  intro pp ee ss mm bb mt cd ls cx hsz hw hl
  have hl : lv_has ls 1 [(0, .ref (ad 0 0))] := hl
  refine lv_aload_n cx.1 cx.2.1 dX0_made_0 rfl (lv_at hl 0 rfl) ?_
  refine cd_gO (o2 := 6) (e2 := 2) (o := 0) (k := 0) (f := 0) hj cx hw hic0 rfl ⟨by decide, rfl, by decide, rfl⟩ rfl (by decide) ⟨rfl, rfl⟩ (List.mem_cons_of_mem _ cm_1) dX0_made_1 ?_
  refine cd_gI (o := 6) (k := 1) (f := 193) hj cx hw hic6 rfl ⟨by decide, rfl, by decide, rfl⟩ rfl (by decide) (List.mem_cons_of_mem _ cm_14) dX0_made_4 ?_
  exact hp_iret cx hw (cd_ret hj h) dX0_made_7
set_option maxHeartbeats 4000000 in
set_option maxRecDepth 100000 in
theorem kc_X6_at (l : Launch) (D : va_G) (cA : Nat → ClassId) (E : hp_N) (sz : Nat) (ad : Nat → Nat → Nat) (ca0 : Nat → Nat) (hj : cd_inj ad ca0) (oq sgq sgv : Nat) (hE : cd_E E oq sgq sgv) (n : Nat) (σ0 : cd_S) (a0 : Nat) (a1 : Int32) (hb_a0 : a0 < 197) (p : (Int32 × cd_S)) (h : f_X6_at n σ0 a0 a1 = some p) : Met l yX6_at (Cond.code yX6_at cX6_at 2 (some .int) :: v_CLS) ({ frames := 0, cells := 0, slots := 0, locals := 0 }) (hp_Pc D vwCl (hp_Tl cA) E sz (cd_pic cA ad ca0 σ0) [.ref (ad 6 a0), .int a1]) (hp_Qi D vwCl (hp_Tl cA) sz (cd_pic cA ad ca0 σ0) (fun r u => r = p.1 ∧ ∃ ca1, cd_inj ad ca1 ∧ u = cd_pic cA ad ca1 p.2)) 0 0 (hp_A (cd_pic cA ad ca0 σ0) sz) := by
  refine hp_ofW (cc := cX6_at) (maxL := 2) (ret := (some .int)) (by decide) rfl (Nat.le_of_ble_eq_true rfl) ?_
  intro pp ee ss mm bb mt cd ls cx hsz hw hl
  have hl : lv_has ls 2 [(0, .ref (ad 6 a0)), (1, .int a1)] := hl
  refine lv_iload_n cx.1 cx.2.1 dX6_at_0 rfl (lv_at hl 1 rfl) ?_
  refine lv_if_lt (tgt := 22) cx.1 cx.2.1 dX6_at_1 (by decide) (fun c1 => ?_) (fun c1 => ?_)
  · have h := md_ip c1 h
    refine lv_iconst (v := 0) cx.1 cx.2.1 dX6_at_22 (by decide) ?_
    exact hp_iret cx hw (cd_ret hj h) dX6_at_23
  · have h := md_in c1 h
    refine lv_iload_n cx.1 cx.2.1 dX6_at_4 rfl (lv_at hl 1 rfl) ?_
    refine lv_aload_n cx.1 cx.2.1 dX6_at_5 rfl (lv_at hl 0 rfl) ?_
    refine cd_gI (o := 6) (k := 1) (f := 193) hj cx hw hic6 rfl ⟨by decide, rfl, by decide, rfl⟩ rfl (show _ < 197 by omega) (List.mem_cons_of_mem _ cm_0) dX6_at_6 ?_
    refine lv_icmp_ge (tgt := 22) cx.1 cx.2.1 dX6_at_9 (by decide) (fun c9 => ?_) (fun c9 => ?_)
    · have h := md_ip c9 h
      refine lv_iconst (v := 0) cx.1 cx.2.1 dX6_at_22 (by decide) ?_
      exact hp_iret cx hw (cd_ret hj h) dX6_at_23
    · have h := md_in c9 h
      refine lv_aload_n cx.1 cx.2.1 dX6_at_12 rfl (lv_at hl 0 rfl) ?_
      refine cd_gC (o := 6) (k := 0) (f := 192) hj cx hw hic6 rfl ⟨by decide, rfl, by decide, rfl⟩ rfl (show _ < 197 by omega) (List.mem_cons_of_mem _ cm_15) dX6_at_13 ?_
      refine lv_iload_n cx.1 cx.2.1 dX6_at_16 rfl (lv_at hl 1 rfl) ?_
      obtain ⟨v1, e_v1, h⟩ := md_ob h
      refine cd_lF hj cx hw (show _ < 197 by omega) e_v1 dX6_at_17 ?_
      refine lv_l2i (v := (v1.toInt32)) cx.1 cx.2.1 dX6_at_18 rfl ?_
      refine lv_goto (tgt := 23) cx.1 cx.2.1 dX6_at_19 (by decide) ?_
      exact hp_iret cx hw (cd_ret hj h) dX6_at_23
set_option maxHeartbeats 4000000 in
set_option maxRecDepth 100000 in
theorem kc_X0_productCount (l : Launch) (D : va_G) (cA : Nat → ClassId) (E : hp_N) (sz : Nat) (ad : Nat → Nat → Nat) (ca0 : Nat → Nat) (hj : cd_inj ad ca0) (oq sgq sgv : Nat) (hE : cd_E E oq sgq sgv) (n : Nat) (σ0 : cd_S) (a1 : Int32) (p : (Int32 × cd_S)) (h : f_X0_productCount n σ0 a1 = some p) : Met l yX0_productCount (Cond.code yX0_productCount cX0_productCount 3 (some .int) :: v_CLS) ({ frames := 1, cells := 0, slots := 0, locals := 21 }) (hp_Pc D vwCl (hp_Tl cA) E sz (cd_pic cA ad ca0 σ0) [.ref (ad 0 0), .int a1]) (hp_Qi D vwCl (hp_Tl cA) sz (cd_pic cA ad ca0 σ0) (fun r u => r = p.1 ∧ ∃ ca1, cd_inj ad ca1 ∧ u = cd_pic cA ad ca1 p.2)) 0 0 (hp_A (cd_pic cA ad ca0 σ0) sz) := by
  refine hp_ofW (cc := cX0_productCount) (maxL := 3) (ret := (some .int)) (by decide) rfl (Nat.le_of_ble_eq_true rfl) ?_
  intro pp ee ss mm bb mt cd ls cx hsz hw hl
  have hl : lv_has ls 3 [(0, .ref (ad 0 0)), (1, .int a1)] := hl
  have J33 : ∀ (ca : Nat → Nat) (hj : cd_inj ad ca) (σ : cd_S) (l1 : Int32) (t0 : Int32) (H : Heap) (locs : List Loc) (ls : Array Slot), f_X0_productCount_J33 n σ l1 t0 = some p → hp_w D vwCl (hp_Tl cA) E (hp_A (cd_pic cA ad ca0 σ0) sz) ss H locs (cd_pic cA ad ca σ) → lv_has ls 3 [(0, .ref (ad 0 0)), (1, .int l1)] → W pp l ee ({ frames := 1, cells := 0, slots := 0, locals := 21 }) ss mm [.ref (ad 0 0), .int a1].toArray bb mt cd H locs 0 0 (MQ bb (hp_Qi D vwCl (hp_Tl cA) sz (cd_pic cA ad ca0 σ0) (fun r u => r = p.1 ∧ ∃ ca1, cd_inj ad ca1 ∧ u = cd_pic cA ad ca1 p.2)) [.ref (ad 0 0), .int a1].toArray ss 0 0 (hp_A (cd_pic cA ad ca0 σ0) sz)) (F0 mm 33 ls [.int t0]) := by
    intro ca hj σ l1 t0 H locs ls h hw hl
    refine lv_istore_n (lv' := [(2, .int t0), (0, .ref (ad 0 0)), (1, .int l1)]) cx.1 cx.2.1 dX0_productCount_33 rfl hl (by decide) rfl (fun ls hl => ?_)
    refine lv_iload_n cx.1 cx.2.1 dX0_productCount_34 rfl (lv_at hl 0 rfl) ?_
    refine lv_aload_n cx.1 cx.2.1 dX0_productCount_35 rfl (lv_at hl 1 rfl) ?_
    refine cd_gO (o2 := 6) (e2 := 2) (o := 0) (k := 0) (f := 0) hj cx hw hic0 rfl ⟨by decide, rfl, by decide, rfl⟩ rfl (by decide) ⟨rfl, rfl⟩ (List.mem_cons_of_mem _ cm_1) dX0_productCount_36 ?_
    refine lv_iload_n cx.1 cx.2.1 dX0_productCount_39 rfl (lv_at hl 2 rfl) ?_
    obtain ⟨p1, e_p1, h⟩ := md_ob h
    refine hp_callVi (As := [.int l1]) (rest := [.int t0]) cx hw (kc_X6_at l D cA E _ ad _ hj oq sgq sgv hE n σ 2 l1 (by decide) p1 e_p1) (cwV 1 cx.2.2.2.2.2.1 (cd_giV cm_16 cm_17 cm_18 cm_5 cm_19) rfl rfl rfl hdc_X6_at ⟨Nat.le_of_ble_eq_true rfl, Nat.le_of_ble_eq_true rfl⟩) (cd_atO hj (by decide) (by decide)) rfl rfl hl.1 rfl (Nat.le_of_ble_eq_true rfl) dX0_productCount_40 ⟨Nat.le_refl _, Nat.le_refl _⟩ (fun r u H locs hp hw => ?_)
    obtain ⟨rfl, ca, hj, rfl⟩ := hp
    refine lv_isub cx.1 cx.2.1 dX0_productCount_43 ?_
    exact hp_iret cx hw (cd_ret hj h) dX0_productCount_44
  refine lv_iload_n cx.1 cx.2.1 dX0_productCount_0 rfl (lv_at hl 1 rfl) ?_
  refine lv_iconst (v := 1) cx.1 cx.2.1 dX0_productCount_1 (by decide) ?_
  refine lv_iadd cx.1 cx.2.1 dX0_productCount_2 ?_
  refine lv_aload_n cx.1 cx.2.1 dX0_productCount_3 rfl (lv_at hl 0 rfl) ?_
  refine cd_gO (o2 := 6) (e2 := 2) (o := 0) (k := 0) (f := 0) hj cx hw hic0 rfl ⟨by decide, rfl, by decide, rfl⟩ rfl (by decide) ⟨rfl, rfl⟩ (List.mem_cons_of_mem _ cm_1) dX0_productCount_4 ?_
  refine cd_gI (o := 6) (k := 1) (f := 193) hj cx hw hic6 rfl ⟨by decide, rfl, by decide, rfl⟩ rfl (by decide) (List.mem_cons_of_mem _ cm_14) dX0_productCount_7 ?_
  refine lv_icmp_ge (tgt := 26) cx.1 cx.2.1 dX0_productCount_10 (by decide) (fun c10 => ?_) (fun c10 => ?_)
  · have h := md_ip c10 h
    refine lv_aload_n cx.1 cx.2.1 dX0_productCount_26 rfl (lv_at hl 0 rfl) ?_
    refine cd_gO (o2 := 6) (e2 := 3) (o := 0) (k := 1) (f := 1) hj cx hw hic0 rfl ⟨by decide, rfl, by decide, rfl⟩ rfl (by decide) ⟨rfl, rfl⟩ (List.mem_cons_of_mem _ cm_7) dX0_productCount_27 ?_
    refine cd_gI (o := 6) (k := 1) (f := 193) hj cx hw hic6 rfl ⟨by decide, rfl, by decide, rfl⟩ rfl (by decide) (List.mem_cons_of_mem _ cm_14) dX0_productCount_30 ?_
    exact J33 _ hj σ0 a1 ((cI σ0 193 3)) _ _ _ h hw (lv_sub hl [0, 1] rfl)
  · have h := md_in c10 h
    refine lv_aload_n cx.1 cx.2.1 dX0_productCount_13 rfl (lv_at hl 0 rfl) ?_
    refine cd_gO (o2 := 6) (e2 := 2) (o := 0) (k := 0) (f := 0) hj cx hw hic0 rfl ⟨by decide, rfl, by decide, rfl⟩ rfl (by decide) ⟨rfl, rfl⟩ (List.mem_cons_of_mem _ cm_1) dX0_productCount_14 ?_
    refine lv_iload_n cx.1 cx.2.1 dX0_productCount_17 rfl (lv_at hl 1 rfl) ?_
    refine lv_iconst (v := 1) cx.1 cx.2.1 dX0_productCount_18 (by decide) ?_
    refine lv_iadd cx.1 cx.2.1 dX0_productCount_19 ?_
    obtain ⟨p2, e_p2, h⟩ := md_ob h
    refine hp_callVi (As := [.int (a1 + 1)]) (rest := []) cx hw (kc_X6_at l D cA E _ ad _ hj oq sgq sgv hE n σ0 2 ((a1 + 1)) (by decide) p2 e_p2) (cwV 1 cx.2.2.2.2.2.1 (cd_giV cm_16 cm_17 cm_18 cm_5 cm_19) rfl rfl rfl hdc_X6_at ⟨Nat.le_of_ble_eq_true rfl, Nat.le_of_ble_eq_true rfl⟩) (cd_atO hj (by decide) (by decide)) rfl rfl hl.1 rfl (Nat.le_of_ble_eq_true rfl) dX0_productCount_20 ⟨Nat.le_refl _, Nat.le_refl _⟩ (fun r u H locs hp hw => ?_)
    obtain ⟨rfl, ca, hj, rfl⟩ := hp
    refine lv_goto (tgt := 33) cx.1 cx.2.1 dX0_productCount_23 (by decide) ?_
    exact J33 _ hj p2.2 a1 (p2.1) _ _ _ h hw (lv_sub hl [0, 1] rfl)
set_option maxHeartbeats 4000000 in
set_option maxRecDepth 100000 in
theorem kc_X0_product (l : Launch) (D : va_G) (cA : Nat → ClassId) (E : hp_N) (sz : Nat) (ad : Nat → Nat → Nat) (ca0 : Nat → Nat) (hj : cd_inj ad ca0) (oq sgq sgv : Nat) (hE : cd_E E oq sgq sgv) (n : Nat) (σ0 : cd_S) (a1 : Int32) (a2 : Int32) (p : (Int32 × cd_S)) (h : f_X0_product n σ0 a1 a2 = some p) : Met l yX0_product (Cond.code yX0_product cX0_product 3 (some .int) :: v_CLS) ({ frames := 1, cells := 0, slots := 0, locals := 21 }) (hp_Pc D vwCl (hp_Tl cA) E sz (cd_pic cA ad ca0 σ0) [.ref (ad 0 0), .int a1, .int a2]) (hp_Qi D vwCl (hp_Tl cA) sz (cd_pic cA ad ca0 σ0) (fun r u => r = p.1 ∧ ∃ ca1, cd_inj ad ca1 ∧ u = cd_pic cA ad ca1 p.2)) 0 0 (hp_A (cd_pic cA ad ca0 σ0) sz) := by
  refine hp_ofW (cc := cX0_product) (maxL := 3) (ret := (some .int)) (by decide) rfl (Nat.le_of_ble_eq_true rfl) ?_
  intro pp ee ss mm bb mt cd ls cx hsz hw hl
  have hl : lv_has ls 3 [(0, .ref (ad 0 0)), (1, .int a1), (2, .int a2)] := hl
  refine lv_aload_n cx.1 cx.2.1 dX0_product_0 rfl (lv_at hl 0 rfl) ?_
  refine cd_gO (o2 := 6) (e2 := 3) (o := 0) (k := 1) (f := 1) hj cx hw hic0 rfl ⟨by decide, rfl, by decide, rfl⟩ rfl (by decide) ⟨rfl, rfl⟩ (List.mem_cons_of_mem _ cm_7) dX0_product_1 ?_
  refine lv_aload_n cx.1 cx.2.1 dX0_product_4 rfl (lv_at hl 0 rfl) ?_
  refine cd_gO (o2 := 6) (e2 := 2) (o := 0) (k := 0) (f := 0) hj cx hw hic0 rfl ⟨by decide, rfl, by decide, rfl⟩ rfl (by decide) ⟨rfl, rfl⟩ (List.mem_cons_of_mem _ cm_1) dX0_product_5 ?_
  refine lv_iload_n cx.1 cx.2.1 dX0_product_8 rfl (lv_at hl 1 rfl) ?_
  obtain ⟨p1, e_p1, h⟩ := md_ob h
  refine hp_callVi (As := [.int a1]) (rest := [.ref (ad 6 3)]) cx hw (kc_X6_at l D cA E _ ad _ hj oq sgq sgv hE n σ0 2 a1 (by decide) p1 e_p1) (cwV 1 cx.2.2.2.2.2.1 (cd_giV cm_16 cm_17 cm_18 cm_5 cm_19) rfl rfl rfl hdc_X6_at ⟨Nat.le_of_ble_eq_true rfl, Nat.le_of_ble_eq_true rfl⟩) (cd_atO hj (by decide) (by decide)) rfl rfl hl.1 rfl (Nat.le_of_ble_eq_true rfl) dX0_product_9 ⟨Nat.le_refl _, Nat.le_refl _⟩ (fun r u H locs hp hw => ?_)
  obtain ⟨rfl, ca, hj, rfl⟩ := hp
  refine lv_iload_n cx.1 cx.2.1 dX0_product_12 rfl (lv_at hl 2 rfl) ?_
  refine lv_iadd cx.1 cx.2.1 dX0_product_13 ?_
  obtain ⟨p2, e_p2, h⟩ := md_ob h
  refine hp_callVi (As := [.int (p1.1 + a2)]) (rest := []) cx hw (kc_X6_at l D cA E _ ad _ hj oq sgq sgv hE n p1.2 3 ((p1.1 + a2)) (by decide) p2 e_p2) (cwV 1 cx.2.2.2.2.2.1 (cd_giV cm_16 cm_17 cm_18 cm_5 cm_19) rfl rfl rfl hdc_X6_at ⟨Nat.le_of_ble_eq_true rfl, Nat.le_of_ble_eq_true rfl⟩) (cd_atO hj (by decide) (by decide)) rfl rfl hl.1 rfl (Nat.le_of_ble_eq_true rfl) dX0_product_14 ⟨Nat.le_refl _, Nat.le_refl _⟩ (fun r u H locs hp hw => ?_)
  obtain ⟨rfl, ca, hj, rfl⟩ := hp
  exact hp_iret cx hw (cd_ret hj h) dX0_product_17
set_option maxHeartbeats 4000000 in
set_option maxRecDepth 100000 in
theorem kc_X0_grants (l : Launch) (D : va_G) (cA : Nat → ClassId) (E : hp_N) (sz : Nat) (ad : Nat → Nat → Nat) (ca0 : Nat → Nat) (hj : cd_inj ad ca0) (oq sgq sgv : Nat) (hE : cd_E E oq sgq sgv) (n : Nat) (σ0 : cd_S) (a1 : Int32) (a2 : Int32) (p : (Int32 × cd_S)) (h : f_X0_grants n σ0 a1 a2 = some p) : Met l yX0_grants (Cond.code yX0_grants cX0_grants 5 (some .boolean) :: v_CLS) ({ frames := 2, cells := 0, slots := 0, locals := 43 }) (hp_Pc D vwCl (hp_Tl cA) E sz (cd_pic cA ad ca0 σ0) [.ref (ad 0 0), .int a1, .int a2]) (hp_Qi D vwCl (hp_Tl cA) sz (cd_pic cA ad ca0 σ0) (fun r u => r = p.1 ∧ ∃ ca1, cd_inj ad ca1 ∧ u = cd_pic cA ad ca1 p.2)) 0 0 (hp_A (cd_pic cA ad ca0 σ0) sz) := by
  refine hp_ofW (cc := cX0_grants) (maxL := 5) (ret := (some .boolean)) (by decide) rfl (Nat.le_of_ble_eq_true rfl) ?_
  intro pp ee ss mm bb mt cd ls cx hsz hw hl
  have hl : lv_has ls 5 [(0, .ref (ad 0 0)), (1, .int a1), (2, .int a2)] := hl
  have J10 : ∀ (ca : Nat → Nat) (hj : cd_inj ad ca) (σ : cd_S) (l1 : Int32) (l2 : Int32) (t0 : Int32) (H : Heap) (locs : List Loc) (ls : Array Slot), f_X0_grants_J10 n σ l1 l2 t0 = some p → hp_w D vwCl (hp_Tl cA) E (hp_A (cd_pic cA ad ca0 σ0) sz) ss H locs (cd_pic cA ad ca σ) → lv_has ls 5 [(0, .ref (ad 0 0)), (1, .int l1), (2, .int l2)] → W pp l ee ({ frames := 2, cells := 0, slots := 0, locals := 43 }) ss mm [.ref (ad 0 0), .int a1, .int a2].toArray bb mt cd H locs 0 0 (MQ bb (hp_Qi D vwCl (hp_Tl cA) sz (cd_pic cA ad ca0 σ0) (fun r u => r = p.1 ∧ ∃ ca1, cd_inj ad ca1 ∧ u = cd_pic cA ad ca1 p.2)) [.ref (ad 0 0), .int a1, .int a2].toArray ss 0 0 (hp_A (cd_pic cA ad ca0 σ0) sz)) (F0 mm 10 ls [.int t0]) := by
    intro ca hj σ l1 l2 t0 H locs ls h hw hl
    refine lv_istore_n (lv' := [(3, .int t0), (0, .ref (ad 0 0)), (1, .int l1), (2, .int l2)]) cx.1 cx.2.1 dX0_grants_10 rfl hl (by decide) rfl (fun ls hl => ?_)
    refine lv_iconst (v := 0) cx.1 cx.2.1 dX0_grants_11 (by decide) ?_
    refine lv_istore (lv' := [(4, .int 0), (3, .int t0), (0, .ref (ad 0 0)), (1, .int l1), (2, .int l2)]) cx.1 cx.2.1 dX0_grants_12 hl (by decide) rfl (fun ls hl => ?_)
    have L14 : ∀ (j : Nat) (ca : Nat → Nat) (hj : cd_inj ad ca) (σ : cd_S) (l1 : Int32) (l2 : Int32) (l3 : Int32) (l4 : Int32) (q : (cd_S × Int32 × Int32)) (H : Heap) (locs : List Loc) (ls : Array Slot), f_X0_grants_L14 n l1 l2 j σ l3 l4 = some q → hp_w D vwCl (hp_Tl cA) E (hp_A (cd_pic cA ad ca0 σ0) sz) ss H locs (cd_pic cA ad ca σ) → lv_has ls 5 [(0, .ref (ad 0 0)), (1, .int l1), (2, .int l2), (3, .int l3), (4, .int l4)] → (∀ (ca : Nat → Nat) (hj : cd_inj ad ca) (H : Heap) (locs : List Loc) (ls : Array Slot), hp_w D vwCl (hp_Tl cA) E (hp_A (cd_pic cA ad ca0 σ0) sz) ss H locs (cd_pic cA ad ca q.1) → lv_has ls 5 [(3, .int q.2.1)] → W pp l ee ({ frames := 2, cells := 0, slots := 0, locals := 43 }) ss mm [.ref (ad 0 0), .int a1, .int a2].toArray bb mt cd H locs 0 0 (MQ bb (hp_Qi D vwCl (hp_Tl cA) sz (cd_pic cA ad ca0 σ0) (fun r u => r = p.1 ∧ ∃ ca1, cd_inj ad ca1 ∧ u = cd_pic cA ad ca1 p.2)) [.ref (ad 0 0), .int a1, .int a2].toArray ss 0 0 (hp_A (cd_pic cA ad ca0 σ0) sz)) (F0 mm 54 ls [])) → W pp l ee ({ frames := 2, cells := 0, slots := 0, locals := 43 }) ss mm [.ref (ad 0 0), .int a1, .int a2].toArray bb mt cd H locs 0 0 (MQ bb (hp_Qi D vwCl (hp_Tl cA) sz (cd_pic cA ad ca0 σ0) (fun r u => r = p.1 ∧ ∃ ca1, cd_inj ad ca1 ∧ u = cd_pic cA ad ca1 p.2)) [.ref (ad 0 0), .int a1, .int a2].toArray ss 0 0 (hp_A (cd_pic cA ad ca0 σ0) sz)) (F0 mm 14 ls []) := by
      intro j
      induction j with
      | zero => intro ca hj σ l1 l2 l3 l4 q H locs ls h; exact nomatch h
      | succ j ih =>
        intro ca hj σ l1 l2 l3 l4 q H locs ls h hw hl K
        unfold f_X0_grants_L14 at h
        have J47 : ∀ (ca : Nat → Nat) (hj : cd_inj ad ca) (σ : cd_S) (l4 : Int32) (t0 : Int32) (H : Heap) (locs : List Loc) (ls : Array Slot), f_X0_grants_J47 n l1 l2 (f_X0_grants_L14 n l1 l2 j) σ l4 t0 = some q → hp_w D vwCl (hp_Tl cA) E (hp_A (cd_pic cA ad ca0 σ0) sz) ss H locs (cd_pic cA ad ca σ) → lv_has ls 5 [(0, .ref (ad 0 0)), (1, .int l1), (2, .int l2), (4, .int l4)] → W pp l ee ({ frames := 2, cells := 0, slots := 0, locals := 43 }) ss mm [.ref (ad 0 0), .int a1, .int a2].toArray bb mt cd H locs 0 0 (MQ bb (hp_Qi D vwCl (hp_Tl cA) sz (cd_pic cA ad ca0 σ0) (fun r u => r = p.1 ∧ ∃ ca1, cd_inj ad ca1 ∧ u = cd_pic cA ad ca1 p.2)) [.ref (ad 0 0), .int a1, .int a2].toArray ss 0 0 (hp_A (cd_pic cA ad ca0 σ0) sz)) (F0 mm 47 ls [.int t0]) := by
          intro ca hj σ l4 t0 H locs ls h hw hl
          refine lv_istore_n (lv' := [(3, .int t0), (0, .ref (ad 0 0)), (1, .int l1), (2, .int l2), (4, .int l4)]) cx.1 cx.2.1 dX0_grants_47 rfl hl (by decide) rfl (fun ls hl => ?_)
          refine lv_iinc (v := (l4 + 1)) (lv' := [(4, .int (l4 + 1)), (3, .int t0), (0, .ref (ad 0 0)), (1, .int l1), (2, .int l2)]) cx.1 cx.2.1 dX0_grants_48 hl (k := 4) rfl rfl (by decide) rfl (fun ls hl => ?_)
          refine lv_goto (tgt := 14) cx.1 cx.2.1 dX0_grants_51 (by decide) ?_
          exact ih _ hj σ l1 l2 t0 ((l4 + 1)) q _ _ _ h hw (lv_sub hl [2, 3, 4, 1, 0] rfl) K
        refine lv_iload_n cx.1 cx.2.1 dX0_grants_14 rfl (lv_at hl 3 rfl) ?_
        refine lv_if_ne (tgt := 54) cx.1 cx.2.1 dX0_grants_15 (by decide) (fun c15 => ?_) (fun c15 => ?_)
        · have h := md_in c15 h
          obtain rfl := Option.some.inj h
          exact K _ hj _ _ _ hw (lv_sub hl [3] rfl)
        · have h := md_ip c15 h
          refine lv_iload cx.1 cx.2.1 dX0_grants_18 (lv_at hl 4 rfl) ?_
          refine lv_aload_n cx.1 cx.2.1 dX0_grants_20 rfl (lv_at hl 0 rfl) ?_
          refine lv_iload_n cx.1 cx.2.1 dX0_grants_21 rfl (lv_at hl 1 rfl) ?_
          obtain ⟨p1, e_p1, h⟩ := md_ob h
          refine hp_callVi (As := [.int l1]) (rest := [.int l4]) cx hw (kc_X0_productCount l D cA E _ ad _ hj oq sgq sgv hE n σ l1 p1 e_p1) (cwV 1 cx.2.2.2.2.2.1 (cd_giV cm_20 cm_21 cm_22 cm_23 cm_24) rfl rfl rfl hdc_X0_productCount ⟨Nat.le_of_ble_eq_true rfl, Nat.le_of_ble_eq_true rfl⟩) (cd_atO hj (by decide) (by decide)) rfl rfl hl.1 rfl (Nat.le_of_ble_eq_true rfl) dX0_grants_22 ⟨Nat.le_refl _, Nat.le_refl _⟩ (fun r u H locs hp hw => ?_)
          obtain ⟨rfl, ca, hj, rfl⟩ := hp
          refine lv_icmp_ge (tgt := 54) cx.1 cx.2.1 dX0_grants_25 (by decide) (fun c25 => ?_) (fun c25 => ?_)
          · have h := md_ip c25 h
            obtain rfl := Option.some.inj h
            exact K _ hj _ _ _ hw (lv_sub hl [3] rfl)
          · have h := md_in c25 h
            refine lv_aload_n cx.1 cx.2.1 dX0_grants_28 rfl (lv_at hl 0 rfl) ?_
            refine lv_iload_n cx.1 cx.2.1 dX0_grants_29 rfl (lv_at hl 1 rfl) ?_
            refine lv_iload cx.1 cx.2.1 dX0_grants_30 (lv_at hl 4 rfl) ?_
            obtain ⟨p2, e_p2, h⟩ := md_ob h
            refine hp_callVi (As := [.int l1, .int l4]) (rest := []) cx hw (kc_X0_product l D cA E _ ad _ hj oq sgq sgv hE n p1.2 l1 l4 p2 e_p2) (cwV 2 cx.2.2.2.2.2.1 (cd_giV cm_25 cm_26 cm_27 cm_23 cm_28) rfl rfl rfl hdc_X0_product ⟨Nat.le_of_ble_eq_true rfl, Nat.le_of_ble_eq_true rfl⟩) (cd_atO hj (by decide) (by decide)) rfl rfl hl.1 rfl (Nat.le_of_ble_eq_true rfl) dX0_grants_32 ⟨Nat.le_refl _, Nat.le_refl _⟩ (fun r u H locs hp hw => ?_)
            obtain ⟨rfl, ca, hj, rfl⟩ := hp
            refine lv_iload_n cx.1 cx.2.1 dX0_grants_35 rfl (lv_at hl 2 rfl) ?_
            refine lv_iconst (v := (-1)) cx.1 cx.2.1 dX0_grants_36 (by decide) ?_
            refine lv_ixor cx.1 cx.2.1 dX0_grants_37 ?_
            refine lv_iand cx.1 cx.2.1 dX0_grants_38 ?_
            refine lv_if_ne (tgt := 46) cx.1 cx.2.1 dX0_grants_39 (by decide) (fun c39 => ?_) (fun c39 => ?_)
            · have h := md_in c39 h
              refine lv_iconst (v := 0) cx.1 cx.2.1 dX0_grants_46 (by decide) ?_
              exact J47 _ hj p2.2 l4 0 _ _ _ h hw (lv_sub hl [0, 1, 2, 4] rfl)
            · have h := md_ip c39 h
              refine lv_iconst (v := 1) cx.1 cx.2.1 dX0_grants_42 (by decide) ?_
              refine lv_goto (tgt := 47) cx.1 cx.2.1 dX0_grants_43 (by decide) ?_
              exact J47 _ hj p2.2 l4 1 _ _ _ h hw (lv_sub hl [0, 1, 2, 4] rfl)
    obtain ⟨q3, e_q3, h⟩ := md_ob h
    refine L14 n _ hj σ l1 l2 t0 0 q3 _ _ _ e_q3 hw (lv_sub hl [2, 3, 4, 1, 0] rfl) (fun ca hj H locs ls hw hl => ?_)
    refine lv_iload_n cx.1 cx.2.1 dX0_grants_54 rfl (lv_at hl 0 rfl) ?_
    obtain ⟨z4, e_z4, h⟩ := md_ob h
    rw [(md_zbs e_z4).1] at h
    exact hp_zret cx hw (cd_ret hj h) (md_nbn (md_zbs e_z4).2) dX0_grants_55
  refine lv_iload_n cx.1 cx.2.1 dX0_grants_0 rfl (lv_at hl 1 rfl) ?_
  refine lv_iconst (v := (-1)) cx.1 cx.2.1 dX0_grants_1 (by decide) ?_
  refine lv_icmp_ne (tgt := 9) cx.1 cx.2.1 dX0_grants_2 (by decide) (fun c2 => ?_) (fun c2 => ?_)
  · have h := md_in c2 h
    refine lv_iconst (v := 0) cx.1 cx.2.1 dX0_grants_9 (by decide) ?_
    exact J10 _ hj σ0 a1 a2 0 _ _ _ h hw (lv_sub hl [0, 1, 2] rfl)
  · have h := md_ip c2 h
    refine lv_iconst (v := 1) cx.1 cx.2.1 dX0_grants_5 (by decide) ?_
    refine lv_goto (tgt := 10) cx.1 cx.2.1 dX0_grants_6 (by decide) ?_
    exact J10 _ hj σ0 a1 a2 1 _ _ _ h hw (lv_sub hl [0, 1, 2] rfl)
set_option maxHeartbeats 4000000 in
set_option maxRecDepth 100000 in
theorem kc_X0_addDraft (l : Launch) (D : va_G) (cA : Nat → ClassId) (E : hp_N) (sz : Nat) (ad : Nat → Nat → Nat) (ca0 : Nat → Nat) (hj : cd_inj ad ca0) (oq sgq sgv : Nat) (hE : cd_E E oq sgq sgv) (n : Nat) (σ0 : cd_S) (a1 : Int32) (p : (Int32 × cd_S)) (h : f_X0_addDraft n σ0 a1 = some p) : Met l yX0_addDraft (Cond.code yX0_addDraft cX0_addDraft 2 none :: v_CLS) ({ frames := 0, cells := 0, slots := 0, locals := 0 }) (hp_Pc D vwCl (hp_Tl cA) E sz (cd_pic cA ad ca0 σ0) [.ref (ad 0 0), .int a1]) (hp_Qv D vwCl (hp_Tl cA) sz (cd_pic cA ad ca0 σ0) (fun u => ∃ ca1, cd_inj ad ca1 ∧ u = cd_pic cA ad ca1 p.2)) 0 0 (hp_A (cd_pic cA ad ca0 σ0) sz) := by
  refine hp_ofW (cc := cX0_addDraft) (maxL := 2) (ret := none) (by decide) rfl (Nat.le_of_ble_eq_true rfl) ?_
  intro pp ee ss mm bb mt cd ls cx hsz hw hl
  have hl : lv_has ls 2 [(0, .ref (ad 0 0)), (1, .int a1)] := hl
  refine lv_aload_n cx.1 cx.2.1 dX0_addDraft_0 rfl (lv_at hl 0 rfl) ?_
  refine cd_gI (o := 0) (k := 5) (f := 5) hj cx hw hic0 rfl ⟨by decide, rfl, by decide, rfl⟩ rfl (by decide) (List.mem_cons_of_mem _ cm_29) dX0_addDraft_1 ?_
  refine lv_bipush (v := 14) cx.1 cx.2.1 dX0_addDraft_4 (by decide) ?_
  refine lv_icmp_ge (tgt := 29) cx.1 cx.2.1 dX0_addDraft_6 (by decide) (fun c6 => ?_) (fun c6 => ?_)
  · have h := md_ip c6 h
    exact hp_vret cx hw ((cd_ret hj h).2) dX0_addDraft_29
  · have h := md_in c6 h
    refine lv_aload_n cx.1 cx.2.1 dX0_addDraft_9 rfl (lv_at hl 0 rfl) ?_
    refine cd_gA (o := 0) (k := 4) (f := 4) hj cx hw hic0 rfl ⟨by decide, rfl, by decide, rfl⟩ rfl (by decide) (List.mem_cons_of_mem _ cm_30) dX0_addDraft_10 ?_
    refine lv_aload_n cx.1 cx.2.1 dX0_addDraft_13 rfl (lv_at hl 0 rfl) ?_
    refine cd_gI (o := 0) (k := 5) (f := 5) hj cx hw hic0 rfl ⟨by decide, rfl, by decide, rfl⟩ rfl (by decide) (List.mem_cons_of_mem _ cm_29) dX0_addDraft_14 ?_
    refine lv_iload_n cx.1 cx.2.1 dX0_addDraft_17 rfl (lv_at hl 1 rfl) ?_
    obtain ⟨σ1, e_σ1, h⟩ := md_ob h
    refine cd_sI (f := 4) hj cx hw (by decide) (by decide) rfl e_σ1 dX0_addDraft_18 (fun H locs hw => ?_)
    refine lv_aload_n cx.1 cx.2.1 dX0_addDraft_19 rfl (lv_at hl 0 rfl) ?_
    refine lv_dup cx.1 cx.2.1 dX0_addDraft_20 rfl ?_
    refine cd_gI (o := 0) (k := 5) (f := 5) hj cx hw hic0 rfl ⟨by decide, rfl, by decide, rfl⟩ rfl (by decide) (List.mem_cons_of_mem _ cm_29) dX0_addDraft_21 ?_
    refine lv_iconst (v := 1) cx.1 cx.2.1 dX0_addDraft_24 (by decide) ?_
    refine lv_iadd cx.1 cx.2.1 dX0_addDraft_25 ?_
    obtain ⟨σ2, e_σ2, h⟩ := md_ob h
    refine cd_pI (o := 0) (k := 5) (f := 5) hj cx hw hic0 rfl ⟨by decide, rfl, by decide, rfl⟩ tyX0_ok nmX0 rfl (by decide) rfl (List.mem_cons_of_mem _ cm_29) rfl e_σ2 dX0_addDraft_26 (fun H locs hw => ?_)
    exact hp_vret cx hw ((cd_ret hj h).2) dX0_addDraft_29
set_option maxHeartbeats 4000000 in
set_option maxRecDepth 100000 in
theorem kc_X0_load (l : Launch) (D : va_G) (cA : Nat → ClassId) (E : hp_N) (sz : Nat) (ad : Nat → Nat → Nat) (ca0 : Nat → Nat) (hj : cd_inj ad ca0) (oq sgq sgv : Nat) (hE : cd_E E oq sgq sgv) (n : Nat) (σ0 : cd_S) (a1 : Int32) (p : (Int32 × cd_S)) (h : f_X0_load n σ0 a1 = some p) : Met l yX0_load (Cond.code yX0_load cX0_load 3 none :: v_CLS) ({ frames := 2, cells := 0, slots := 0, locals := 43 }) (hp_Pc D vwCl (hp_Tl cA) E sz (cd_pic cA ad ca0 σ0) [.ref (ad 0 0), .int a1]) (hp_Qv D vwCl (hp_Tl cA) sz (cd_pic cA ad ca0 σ0) (fun u => ∃ ca1, cd_inj ad ca1 ∧ u = cd_pic cA ad ca1 p.2)) 0 0 (hp_A (cd_pic cA ad ca0 σ0) sz) := by
  refine hp_ofW (cc := cX0_load) (maxL := 3) (ret := none) (by decide) rfl (Nat.le_of_ble_eq_true rfl) ?_
  intro pp ee ss mm bb mt cd ls cx hsz hw hl
  have hl : lv_has ls 3 [(0, .ref (ad 0 0)), (1, .int a1)] := hl
  refine lv_aload_n cx.1 cx.2.1 dX0_load_0 rfl (lv_at hl 0 rfl) ?_
  refine lv_iconst (v := 0) cx.1 cx.2.1 dX0_load_1 (by decide) ?_
  obtain ⟨σ1, e_σ1, h⟩ := md_ob h
  refine cd_pI (o := 0) (k := 5) (f := 5) hj cx hw hic0 rfl ⟨by decide, rfl, by decide, rfl⟩ tyX0_ok nmX0 rfl (by decide) rfl (List.mem_cons_of_mem _ cm_29) rfl e_σ1 dX0_load_2 (fun H locs hw => ?_)
  refine lv_iload_n cx.1 cx.2.1 dX0_load_5 rfl (lv_at hl 1 rfl) ?_
  refine lv_iconst (v := (-1)) cx.1 cx.2.1 dX0_load_6 (by decide) ?_
  refine lv_icmp_ne (tgt := 16) cx.1 cx.2.1 dX0_load_7 (by decide) (fun c7 => ?_) (fun c7 => ?_)
  · have h := md_in c7 h
    refine lv_iconst (v := 0) cx.1 cx.2.1 dX0_load_16 (by decide) ?_
    refine lv_istore_n (lv' := [(2, .int 0), (0, .ref (ad 0 0)), (1, .int a1)]) cx.1 cx.2.1 dX0_load_17 rfl hl (by decide) rfl (fun ls hl => ?_)
    have L18 : ∀ (j : Nat) (ca : Nat → Nat) (hj : cd_inj ad ca) (σ : cd_S) (l1 : Int32) (l2 : Int32) (q : (cd_S × Int32)) (H : Heap) (locs : List Loc) (ls : Array Slot), f_X0_load_L18 n l1 j σ l2 = some q → hp_w D vwCl (hp_Tl cA) E (hp_A (cd_pic cA ad ca0 σ0) sz) ss H locs (cd_pic cA ad ca σ) → lv_has ls 3 [(0, .ref (ad 0 0)), (1, .int l1), (2, .int l2)] → (∀ (ca : Nat → Nat) (hj : cd_inj ad ca) (H : Heap) (locs : List Loc) (ls : Array Slot), hp_w D vwCl (hp_Tl cA) E (hp_A (cd_pic cA ad ca0 σ0) sz) ss H locs (cd_pic cA ad ca q.1) → lv_has ls 3 [] → W pp l ee ({ frames := 2, cells := 0, slots := 0, locals := 43 }) ss mm [.ref (ad 0 0), .int a1].toArray bb mt cd H locs 0 0 (MQ bb (hp_Qv D vwCl (hp_Tl cA) sz (cd_pic cA ad ca0 σ0) (fun u => ∃ ca1, cd_inj ad ca1 ∧ u = cd_pic cA ad ca1 p.2)) [.ref (ad 0 0), .int a1].toArray ss 0 0 (hp_A (cd_pic cA ad ca0 σ0) sz)) (F0 mm 43 ls [])) → W pp l ee ({ frames := 2, cells := 0, slots := 0, locals := 43 }) ss mm [.ref (ad 0 0), .int a1].toArray bb mt cd H locs 0 0 (MQ bb (hp_Qv D vwCl (hp_Tl cA) sz (cd_pic cA ad ca0 σ0) (fun u => ∃ ca1, cd_inj ad ca1 ∧ u = cd_pic cA ad ca1 p.2)) [.ref (ad 0 0), .int a1].toArray ss 0 0 (hp_A (cd_pic cA ad ca0 σ0) sz)) (F0 mm 18 ls []) := by
      intro j
      induction j with
      | zero => intro ca hj σ l1 l2 q H locs ls h; exact nomatch h
      | succ j ih =>
        intro ca hj σ l1 l2 q H locs ls h hw hl K
        unfold f_X0_load_L18 at h
        refine lv_iload_n cx.1 cx.2.1 dX0_load_18 rfl (lv_at hl 2 rfl) ?_
        refine lv_aload_n cx.1 cx.2.1 dX0_load_19 rfl (lv_at hl 0 rfl) ?_
        refine lv_iload_n cx.1 cx.2.1 dX0_load_20 rfl (lv_at hl 1 rfl) ?_
        obtain ⟨p2, e_p2, h⟩ := md_ob h
        refine hp_callVi (As := [.int l1]) (rest := [.int l2]) cx hw (kc_X0_productCount l D cA E _ ad _ hj oq sgq sgv hE n σ l1 p2 e_p2) (cwV 1 cx.2.2.2.2.2.1 (cd_giV cm_20 cm_21 cm_22 cm_23 cm_24) rfl rfl rfl hdc_X0_productCount ⟨Nat.le_of_ble_eq_true rfl, Nat.le_of_ble_eq_true rfl⟩) (cd_atO hj (by decide) (by decide)) rfl rfl hl.1 rfl (Nat.le_of_ble_eq_true rfl) dX0_load_21 ⟨Nat.le_refl _, Nat.le_refl _⟩ (fun r u H locs hp hw => ?_)
        obtain ⟨rfl, ca, hj, rfl⟩ := hp
        refine lv_icmp_ge (tgt := 43) cx.1 cx.2.1 dX0_load_24 (by decide) (fun c24 => ?_) (fun c24 => ?_)
        · have h := md_ip c24 h
          obtain rfl := Option.some.inj h
          exact K _ hj _ _ _ hw (lv_sub hl [] rfl)
        · have h := md_in c24 h
          refine lv_aload_n cx.1 cx.2.1 dX0_load_27 rfl (lv_at hl 0 rfl) ?_
          refine lv_aload_n cx.1 cx.2.1 dX0_load_28 rfl (lv_at hl 0 rfl) ?_
          refine lv_iload_n cx.1 cx.2.1 dX0_load_29 rfl (lv_at hl 1 rfl) ?_
          refine lv_iload_n cx.1 cx.2.1 dX0_load_30 rfl (lv_at hl 2 rfl) ?_
          obtain ⟨p3, e_p3, h⟩ := md_ob h
          refine hp_callVi (As := [.int l1, .int l2]) (rest := [.ref (ad 0 0)]) cx hw (kc_X0_product l D cA E _ ad _ hj oq sgq sgv hE n p2.2 l1 l2 p3 e_p3) (cwV 2 cx.2.2.2.2.2.1 (cd_giV cm_25 cm_26 cm_27 cm_23 cm_28) rfl rfl rfl hdc_X0_product ⟨Nat.le_of_ble_eq_true rfl, Nat.le_of_ble_eq_true rfl⟩) (cd_atO hj (by decide) (by decide)) rfl rfl hl.1 rfl (Nat.le_of_ble_eq_true rfl) dX0_load_31 ⟨Nat.le_refl _, Nat.le_refl _⟩ (fun r u H locs hp hw => ?_)
          obtain ⟨rfl, ca, hj, rfl⟩ := hp
          obtain ⟨p4, e_p4, h⟩ := md_ob h
          refine hp_callVv (As := [.int p3.1]) (rest := []) cx hw (kc_X0_addDraft l D cA E _ ad _ hj oq sgq sgv hE n p3.2 (p3.1) p4 e_p4) (cwV 1 cx.2.2.2.2.2.1 (cd_giV cm_31 cm_32 cm_33 cm_23 cm_34) rfl rfl rfl hdc_X0_addDraft ⟨Nat.le_of_ble_eq_true rfl, Nat.le_of_ble_eq_true rfl⟩) (cd_atO hj (by decide) (by decide)) rfl rfl hl.1 rfl (Nat.le_of_ble_eq_true rfl) dX0_load_34 ⟨Nat.le_refl _, Nat.le_refl _⟩ (fun u H locs hp hw => ?_)
          obtain ⟨ca, hj, rfl⟩ := hp
          refine lv_iinc (v := (l2 + 1)) (lv' := [(2, .int (l2 + 1)), (0, .ref (ad 0 0)), (1, .int l1)]) cx.1 cx.2.1 dX0_load_37 hl (k := 2) rfl rfl (by decide) rfl (fun ls hl => ?_)
          refine lv_goto (tgt := 18) cx.1 cx.2.1 dX0_load_40 (by decide) ?_
          exact ih _ hj p4.2 l1 ((l2 + 1)) q _ _ _ h hw (lv_sub hl [1, 2, 0] rfl) K
    obtain ⟨q5, e_q5, h⟩ := md_ob h
    refine L18 n _ hj σ1 a1 0 q5 _ _ _ e_q5 hw (lv_sub hl [1, 2, 0] rfl) (fun ca hj H locs ls hw hl => ?_)
    exact hp_vret cx hw ((cd_ret hj h).2) dX0_load_43
  · have h := md_ip c7 h
    refine lv_aload_n cx.1 cx.2.1 dX0_load_10 rfl (lv_at hl 0 rfl) ?_
    refine lv_iconst (v := 0) cx.1 cx.2.1 dX0_load_11 (by decide) ?_
    obtain ⟨p6, e_p6, h⟩ := md_ob h
    refine hp_callVv (As := [.int 0]) (rest := []) cx hw (kc_X0_addDraft l D cA E _ ad _ hj oq sgq sgv hE n σ1 (0 : Int32) p6 e_p6) (cwV 1 cx.2.2.2.2.2.1 (cd_giV cm_31 cm_32 cm_33 cm_23 cm_34) rfl rfl rfl hdc_X0_addDraft ⟨Nat.le_of_ble_eq_true rfl, Nat.le_of_ble_eq_true rfl⟩) (cd_atO hj (by decide) (by decide)) rfl rfl hl.1 rfl (Nat.le_of_ble_eq_true rfl) dX0_load_12 ⟨Nat.le_refl _, Nat.le_refl _⟩ (fun u H locs hp hw => ?_)
    obtain ⟨ca, hj, rfl⟩ := hp
    exact hp_vret cx hw ((cd_ret hj h).2) dX0_load_15
set_option maxHeartbeats 4000000 in
set_option maxRecDepth 100000 in
theorem kc_X0_bucketOf (l : Launch) (D : va_G) (cA : Nat → ClassId) (E : hp_N) (sz : Nat) (ad : Nat → Nat → Nat) (ca0 : Nat → Nat) (hj : cd_inj ad ca0) (oq sgq sgv : Nat) (hE : cd_E E oq sgq sgv) (n : Nat) (σ0 : cd_S) (p : (Int32 × cd_S)) (h : f_X0_bucketOf n σ0 = some p) : Met l yX0_bucketOf (Cond.code yX0_bucketOf cX0_bucketOf 3 (some .int) :: v_CLS) ({ frames := 0, cells := 0, slots := 0, locals := 0 }) (hp_Pc D vwCl (hp_Tl cA) E sz (cd_pic cA ad ca0 σ0) [.ref (ad 0 0)]) (hp_Qi D vwCl (hp_Tl cA) sz (cd_pic cA ad ca0 σ0) (fun r u => r = p.1 ∧ ∃ ca1, cd_inj ad ca1 ∧ u = cd_pic cA ad ca1 p.2)) 0 0 (hp_A (cd_pic cA ad ca0 σ0) sz) := by
  refine hp_ofW (cc := cX0_bucketOf) (maxL := 3) (ret := (some .int)) (by decide) rfl (Nat.le_of_ble_eq_true rfl) ?_
  intro pp ee ss mm bb mt cd ls cx hsz hw hl
  have hl : lv_has ls 3 [(0, .ref (ad 0 0))] := hl
  refine lv_aload_n cx.1 cx.2.1 dX0_bucketOf_0 rfl (lv_at hl 0 rfl) ?_
  refine cd_gI (o := 0) (k := 5) (f := 5) hj cx hw hic0 rfl ⟨by decide, rfl, by decide, rfl⟩ rfl (by decide) (List.mem_cons_of_mem _ cm_29) dX0_bucketOf_1 ?_
  refine lv_istore_n (lv' := [(1, .int (cI σ0 5 0)), (0, .ref (ad 0 0))]) cx.1 cx.2.1 dX0_bucketOf_4 rfl hl (by decide) rfl (fun ls hl => ?_)
  refine lv_iconst (v := 0) cx.1 cx.2.1 dX0_bucketOf_5 (by decide) ?_
  refine lv_istore_n (lv' := [(2, .int 0), (1, .int (cI σ0 5 0)), (0, .ref (ad 0 0))]) cx.1 cx.2.1 dX0_bucketOf_6 rfl hl (by decide) rfl (fun ls hl => ?_)
  have L7 : ∀ (j : Nat) (ca : Nat → Nat) (hj : cd_inj ad ca) (σ : cd_S) (l1 : Int32) (l2 : Int32) (q : (cd_S × Int32 × Int32)) (H : Heap) (locs : List Loc) (ls : Array Slot), f_X0_bucketOf_L7 n j σ l1 l2 = some q → hp_w D vwCl (hp_Tl cA) E (hp_A (cd_pic cA ad ca0 σ0) sz) ss H locs (cd_pic cA ad ca σ) → lv_has ls 3 [(0, .ref (ad 0 0)), (1, .int l1), (2, .int l2)] → (∀ (ca : Nat → Nat) (hj : cd_inj ad ca) (H : Heap) (locs : List Loc) (ls : Array Slot), hp_w D vwCl (hp_Tl cA) E (hp_A (cd_pic cA ad ca0 σ0) sz) ss H locs (cd_pic cA ad ca q.1) → lv_has ls 3 [(1, .int q.2.1)] → W pp l ee ({ frames := 0, cells := 0, slots := 0, locals := 0 }) ss mm [.ref (ad 0 0)].toArray bb mt cd H locs 0 0 (MQ bb (hp_Qi D vwCl (hp_Tl cA) sz (cd_pic cA ad ca0 σ0) (fun r u => r = p.1 ∧ ∃ ca1, cd_inj ad ca1 ∧ u = cd_pic cA ad ca1 p.2)) [.ref (ad 0 0)].toArray ss 0 0 (hp_A (cd_pic cA ad ca0 σ0) sz)) (F0 mm 33 ls [])) → W pp l ee ({ frames := 0, cells := 0, slots := 0, locals := 0 }) ss mm [.ref (ad 0 0)].toArray bb mt cd H locs 0 0 (MQ bb (hp_Qi D vwCl (hp_Tl cA) sz (cd_pic cA ad ca0 σ0) (fun r u => r = p.1 ∧ ∃ ca1, cd_inj ad ca1 ∧ u = cd_pic cA ad ca1 p.2)) [.ref (ad 0 0)].toArray ss 0 0 (hp_A (cd_pic cA ad ca0 σ0) sz)) (F0 mm 7 ls []) := by
    intro j
    induction j with
    | zero => intro ca hj σ l1 l2 q H locs ls h; exact nomatch h
    | succ j ih =>
      intro ca hj σ l1 l2 q H locs ls h hw hl K
      unfold f_X0_bucketOf_L7 at h
      refine lv_iload_n cx.1 cx.2.1 dX0_bucketOf_7 rfl (lv_at hl 2 rfl) ?_
      refine lv_aload_n cx.1 cx.2.1 dX0_bucketOf_8 rfl (lv_at hl 0 rfl) ?_
      refine cd_gI (o := 0) (k := 5) (f := 5) hj cx hw hic0 rfl ⟨by decide, rfl, by decide, rfl⟩ rfl (by decide) (List.mem_cons_of_mem _ cm_29) dX0_bucketOf_9 ?_
      refine lv_icmp_ge (tgt := 33) cx.1 cx.2.1 dX0_bucketOf_12 (by decide) (fun c12 => ?_) (fun c12 => ?_)
      · have h := md_ip c12 h
        obtain rfl := Option.some.inj h
        exact K _ hj _ _ _ hw (lv_sub hl [1] rfl)
      · have h := md_in c12 h
        refine lv_iload_n cx.1 cx.2.1 dX0_bucketOf_15 rfl (lv_at hl 1 rfl) ?_
        refine lv_bipush (v := 31) cx.1 cx.2.1 dX0_bucketOf_16 (by decide) ?_
        refine lv_imul cx.1 cx.2.1 dX0_bucketOf_18 ?_
        refine lv_aload_n cx.1 cx.2.1 dX0_bucketOf_19 rfl (lv_at hl 0 rfl) ?_
        refine cd_gA (o := 0) (k := 4) (f := 4) hj cx hw hic0 rfl ⟨by decide, rfl, by decide, rfl⟩ rfl (by decide) (List.mem_cons_of_mem _ cm_30) dX0_bucketOf_20 ?_
        refine lv_iload_n cx.1 cx.2.1 dX0_bucketOf_23 rfl (lv_at hl 2 rfl) ?_
        obtain ⟨v1, e_v1, h⟩ := md_ob h
        refine cd_lI (f := 4) hj cx hw (by decide) (by decide) rfl e_v1 dX0_bucketOf_24 ?_
        refine lv_iadd cx.1 cx.2.1 dX0_bucketOf_25 ?_
        refine lv_istore_n (lv' := [(1, .int ((l1 * 31) + v1)), (0, .ref (ad 0 0)), (2, .int l2)]) cx.1 cx.2.1 dX0_bucketOf_26 rfl hl (by decide) rfl (fun ls hl => ?_)
        refine lv_iinc (v := (l2 + 1)) (lv' := [(2, .int (l2 + 1)), (1, .int ((l1 * 31) + v1)), (0, .ref (ad 0 0))]) cx.1 cx.2.1 dX0_bucketOf_27 hl (k := 2) rfl rfl (by decide) rfl (fun ls hl => ?_)
        refine lv_goto (tgt := 7) cx.1 cx.2.1 dX0_bucketOf_30 (by decide) ?_
        exact ih _ hj σ (((l1 * 31) + v1)) ((l2 + 1)) q _ _ _ h hw (lv_sub hl [2, 1, 0] rfl) K
  obtain ⟨q2, e_q2, h⟩ := md_ob h
  refine L7 n _ hj σ0 ((cI σ0 5 0)) 0 q2 _ _ _ e_q2 hw (lv_sub hl [2, 1, 0] rfl) (fun ca hj H locs ls hw hl => ?_)
  refine lv_iload_n cx.1 cx.2.1 dX0_bucketOf_33 rfl (lv_at hl 0 rfl) ?_
  refine lv_iload_n cx.1 cx.2.1 dX0_bucketOf_34 rfl (lv_at hl 0 rfl) ?_
  refine lv_bipush (v := 13) cx.1 cx.2.1 dX0_bucketOf_35 (by decide) ?_
  refine lv_iushr (v := ((q2.2.1.toUInt32 >>> ((13 : Int32).toUInt32 &&& Int32.toUInt32 31)).toInt32)) cx.1 cx.2.1 dX0_bucketOf_37 rfl ?_
  refine lv_ixor cx.1 cx.2.1 dX0_bucketOf_38 ?_
  refine lv_sipush (v := 255) cx.1 cx.2.1 dX0_bucketOf_39 (by decide) ?_
  refine lv_iand cx.1 cx.2.1 dX0_bucketOf_42 ?_
  exact hp_iret cx hw (cd_ret hj h) dX0_bucketOf_43
set_option maxHeartbeats 4000000 in
set_option maxRecDepth 100000 in
theorem kc_X0_isDraft (l : Launch) (D : va_G) (cA : Nat → ClassId) (E : hp_N) (sz : Nat) (ad : Nat → Nat → Nat) (ca0 : Nat → Nat) (hj : cd_inj ad ca0) (oq sgq sgv : Nat) (hE : cd_E E oq sgq sgv) (n : Nat) (σ0 : cd_S) (a1 : Int32) (p : (Int32 × cd_S)) (h : f_X0_isDraft n σ0 a1 = some p) : Met l yX0_isDraft (Cond.code yX0_isDraft cX0_isDraft 6 (some .boolean) :: v_CLS) ({ frames := 1, cells := 0, slots := 0, locals := 21 }) (hp_Pc D vwCl (hp_Tl cA) E sz (cd_pic cA ad ca0 σ0) [.ref (ad 0 0), .int a1]) (hp_Qi D vwCl (hp_Tl cA) sz (cd_pic cA ad ca0 σ0) (fun r u => r = p.1 ∧ ∃ ca1, cd_inj ad ca1 ∧ u = cd_pic cA ad ca1 p.2)) 0 0 (hp_A (cd_pic cA ad ca0 σ0) sz) := by
  refine hp_ofW (cc := cX0_isDraft) (maxL := 6) (ret := (some .boolean)) (by decide) rfl (Nat.le_of_ble_eq_true rfl) ?_
  intro pp ee ss mm bb mt cd ls cx hsz hw hl
  have hl : lv_has ls 6 [(0, .ref (ad 0 0)), (1, .int a1)] := hl
  have J58 : ∀ (ca : Nat → Nat) (hj : cd_inj ad ca) (σ : cd_S) (l2 : Int32) (t0 : Int32) (H : Heap) (locs : List Loc) (ls : Array Slot), f_X0_isDraft_J58 n σ l2 t0 = some p → hp_w D vwCl (hp_Tl cA) E (hp_A (cd_pic cA ad ca0 σ0) sz) ss H locs (cd_pic cA ad ca σ) → lv_has ls 6 [(0, .ref (ad 0 0)), (2, .int l2)] → W pp l ee ({ frames := 1, cells := 0, slots := 0, locals := 21 }) ss mm [.ref (ad 0 0), .int a1].toArray bb mt cd H locs 0 0 (MQ bb (hp_Qi D vwCl (hp_Tl cA) sz (cd_pic cA ad ca0 σ0) (fun r u => r = p.1 ∧ ∃ ca1, cd_inj ad ca1 ∧ u = cd_pic cA ad ca1 p.2)) [.ref (ad 0 0), .int a1].toArray ss 0 0 (hp_A (cd_pic cA ad ca0 σ0) sz)) (F0 mm 58 ls [.int t0]) := by
    intro ca hj σ l2 t0 H locs ls h hw hl
    refine lv_istore (lv' := [(4, .int t0), (0, .ref (ad 0 0)), (2, .int l2)]) cx.1 cx.2.1 dX0_isDraft_58 hl (by decide) rfl (fun ls hl => ?_)
    refine lv_iconst (v := 0) cx.1 cx.2.1 dX0_isDraft_60 (by decide) ?_
    refine lv_istore (lv' := [(5, .int 0), (4, .int t0), (0, .ref (ad 0 0)), (2, .int l2)]) cx.1 cx.2.1 dX0_isDraft_61 hl (by decide) rfl (fun ls hl => ?_)
    have L63 : ∀ (j : Nat) (ca : Nat → Nat) (hj : cd_inj ad ca) (σ : cd_S) (l2 : Int32) (l4 : Int32) (l5 : Int32) (q : (cd_S × Int32 × Int32)) (H : Heap) (locs : List Loc) (ls : Array Slot), f_X0_isDraft_L63 n l2 j σ l4 l5 = some q → hp_w D vwCl (hp_Tl cA) E (hp_A (cd_pic cA ad ca0 σ0) sz) ss H locs (cd_pic cA ad ca σ) → lv_has ls 6 [(0, .ref (ad 0 0)), (2, .int l2), (4, .int l4), (5, .int l5)] → (∀ (ca : Nat → Nat) (hj : cd_inj ad ca) (H : Heap) (locs : List Loc) (ls : Array Slot), hp_w D vwCl (hp_Tl cA) E (hp_A (cd_pic cA ad ca0 σ0) sz) ss H locs (cd_pic cA ad ca q.1) → lv_has ls 6 [(4, .int q.2.1)] → W pp l ee ({ frames := 1, cells := 0, slots := 0, locals := 21 }) ss mm [.ref (ad 0 0), .int a1].toArray bb mt cd H locs 0 0 (MQ bb (hp_Qi D vwCl (hp_Tl cA) sz (cd_pic cA ad ca0 σ0) (fun r u => r = p.1 ∧ ∃ ca1, cd_inj ad ca1 ∧ u = cd_pic cA ad ca1 p.2)) [.ref (ad 0 0), .int a1].toArray ss 0 0 (hp_A (cd_pic cA ad ca0 σ0) sz)) (F0 mm 111 ls [])) → W pp l ee ({ frames := 1, cells := 0, slots := 0, locals := 21 }) ss mm [.ref (ad 0 0), .int a1].toArray bb mt cd H locs 0 0 (MQ bb (hp_Qi D vwCl (hp_Tl cA) sz (cd_pic cA ad ca0 σ0) (fun r u => r = p.1 ∧ ∃ ca1, cd_inj ad ca1 ∧ u = cd_pic cA ad ca1 p.2)) [.ref (ad 0 0), .int a1].toArray ss 0 0 (hp_A (cd_pic cA ad ca0 σ0) sz)) (F0 mm 63 ls []) := by
      intro j
      induction j with
      | zero => intro ca hj σ l2 l4 l5 q H locs ls h; exact nomatch h
      | succ j ih =>
        intro ca hj σ l2 l4 l5 q H locs ls h hw hl K
        unfold f_X0_isDraft_L63 at h
        have J103 : ∀ (ca : Nat → Nat) (hj : cd_inj ad ca) (σ : cd_S) (l5 : Int32) (t0 : Int32) (H : Heap) (locs : List Loc) (ls : Array Slot), f_X0_isDraft_J103 n l2 (f_X0_isDraft_L63 n l2 j) σ l5 t0 = some q → hp_w D vwCl (hp_Tl cA) E (hp_A (cd_pic cA ad ca0 σ0) sz) ss H locs (cd_pic cA ad ca σ) → lv_has ls 6 [(0, .ref (ad 0 0)), (2, .int l2), (5, .int l5)] → W pp l ee ({ frames := 1, cells := 0, slots := 0, locals := 21 }) ss mm [.ref (ad 0 0), .int a1].toArray bb mt cd H locs 0 0 (MQ bb (hp_Qi D vwCl (hp_Tl cA) sz (cd_pic cA ad ca0 σ0) (fun r u => r = p.1 ∧ ∃ ca1, cd_inj ad ca1 ∧ u = cd_pic cA ad ca1 p.2)) [.ref (ad 0 0), .int a1].toArray ss 0 0 (hp_A (cd_pic cA ad ca0 σ0) sz)) (F0 mm 103 ls [.int t0]) := by
          intro ca hj σ l5 t0 H locs ls h hw hl
          refine lv_istore (lv' := [(4, .int t0), (0, .ref (ad 0 0)), (2, .int l2), (5, .int l5)]) cx.1 cx.2.1 dX0_isDraft_103 hl (by decide) rfl (fun ls hl => ?_)
          refine lv_iinc (v := (l5 + 1)) (lv' := [(5, .int (l5 + 1)), (4, .int t0), (0, .ref (ad 0 0)), (2, .int l2)]) cx.1 cx.2.1 dX0_isDraft_105 hl (k := 3) rfl rfl (by decide) rfl (fun ls hl => ?_)
          refine lv_goto (tgt := 63) cx.1 cx.2.1 dX0_isDraft_108 (by decide) ?_
          exact ih _ hj σ l2 t0 ((l5 + 1)) q _ _ _ h hw (lv_sub hl [2, 3, 1, 0] rfl) K
        refine lv_iload cx.1 cx.2.1 dX0_isDraft_63 (lv_at hl 2 rfl) ?_
        refine lv_if_eq (tgt := 111) cx.1 cx.2.1 dX0_isDraft_65 (by decide) (fun c65 => ?_) (fun c65 => ?_)
        · have h := md_ip c65 h
          obtain rfl := Option.some.inj h
          exact K _ hj _ _ _ hw (lv_sub hl [2] rfl)
        · have h := md_in c65 h
          refine lv_iload cx.1 cx.2.1 dX0_isDraft_68 (lv_at hl 3 rfl) ?_
          refine lv_aload_n cx.1 cx.2.1 dX0_isDraft_70 rfl (lv_at hl 0 rfl) ?_
          refine cd_gI (o := 0) (k := 5) (f := 5) hj cx hw hic0 rfl ⟨by decide, rfl, by decide, rfl⟩ rfl (by decide) (List.mem_cons_of_mem _ cm_29) dX0_isDraft_71 ?_
          refine lv_icmp_ge (tgt := 111) cx.1 cx.2.1 dX0_isDraft_74 (by decide) (fun c74 => ?_) (fun c74 => ?_)
          · have h := md_ip c74 h
            obtain rfl := Option.some.inj h
            exact K _ hj _ _ _ hw (lv_sub hl [2] rfl)
          · have h := md_in c74 h
            refine lv_aload_n cx.1 cx.2.1 dX0_isDraft_77 rfl (lv_at hl 0 rfl) ?_
            refine cd_gO (o2 := 6) (e2 := 3) (o := 0) (k := 1) (f := 1) hj cx hw hic0 rfl ⟨by decide, rfl, by decide, rfl⟩ rfl (by decide) ⟨rfl, rfl⟩ (List.mem_cons_of_mem _ cm_7) dX0_isDraft_78 ?_
            refine lv_iload_n cx.1 cx.2.1 dX0_isDraft_81 rfl (lv_at hl 1 rfl) ?_
            refine lv_iload cx.1 cx.2.1 dX0_isDraft_82 (lv_at hl 3 rfl) ?_
            refine lv_iadd cx.1 cx.2.1 dX0_isDraft_84 ?_
            obtain ⟨p1, e_p1, h⟩ := md_ob h
            refine hp_callVi (As := [.int (l2 + l5)]) (rest := []) cx hw (kc_X6_at l D cA E _ ad _ hj oq sgq sgv hE n σ 3 ((l2 + l5)) (by decide) p1 e_p1) (cwV 1 cx.2.2.2.2.2.1 (cd_giV cm_16 cm_17 cm_18 cm_5 cm_19) rfl rfl rfl hdc_X6_at ⟨Nat.le_of_ble_eq_true rfl, Nat.le_of_ble_eq_true rfl⟩) (cd_atO hj (by decide) (by decide)) rfl rfl hl.1 rfl (Nat.le_of_ble_eq_true rfl) dX0_isDraft_85 ⟨Nat.le_refl _, Nat.le_refl _⟩ (fun r u H locs hp hw => ?_)
            obtain ⟨rfl, ca, hj, rfl⟩ := hp
            refine lv_aload_n cx.1 cx.2.1 dX0_isDraft_88 rfl (lv_at hl 0 rfl) ?_
            refine cd_gA (o := 0) (k := 4) (f := 4) hj cx hw hic0 rfl ⟨by decide, rfl, by decide, rfl⟩ rfl (by decide) (List.mem_cons_of_mem _ cm_30) dX0_isDraft_89 ?_
            refine lv_iload cx.1 cx.2.1 dX0_isDraft_92 (lv_at hl 3 rfl) ?_
            obtain ⟨v2, e_v2, h⟩ := md_ob h
            refine cd_lI (f := 4) hj cx hw (by decide) (by decide) rfl e_v2 dX0_isDraft_94 ?_
            refine lv_icmp_ne (tgt := 102) cx.1 cx.2.1 dX0_isDraft_95 (by decide) (fun c95 => ?_) (fun c95 => ?_)
            · have h := md_in c95 h
              refine lv_iconst (v := 0) cx.1 cx.2.1 dX0_isDraft_102 (by decide) ?_
              exact J103 _ hj p1.2 l5 0 _ _ _ h hw (lv_sub hl [0, 1, 3] rfl)
            · have h := md_ip c95 h
              refine lv_iconst (v := 1) cx.1 cx.2.1 dX0_isDraft_98 (by decide) ?_
              refine lv_goto (tgt := 103) cx.1 cx.2.1 dX0_isDraft_99 (by decide) ?_
              exact J103 _ hj p1.2 l5 1 _ _ _ h hw (lv_sub hl [0, 1, 3] rfl)
    obtain ⟨q3, e_q3, h⟩ := md_ob h
    refine L63 n _ hj σ l2 t0 0 q3 _ _ _ e_q3 hw (lv_sub hl [2, 3, 1, 0] rfl) (fun ca hj H locs ls hw hl => ?_)
    refine lv_iload cx.1 cx.2.1 dX0_isDraft_111 (lv_at hl 0 rfl) ?_
    obtain ⟨z4, e_z4, h⟩ := md_ob h
    rw [(md_zbs e_z4).1] at h
    exact hp_zret cx hw (cd_ret hj h) (md_nbn (md_zbs e_z4).2) dX0_isDraft_113
  have J42 : ∀ (ca : Nat → Nat) (hj : cd_inj ad ca) (σ : cd_S) (l2 : Int32) (t0 : Int32) (H : Heap) (locs : List Loc) (ls : Array Slot), f_X0_isDraft_J42 n σ l2 t0 = some p → hp_w D vwCl (hp_Tl cA) E (hp_A (cd_pic cA ad ca0 σ0) sz) ss H locs (cd_pic cA ad ca σ) → lv_has ls 6 [(0, .ref (ad 0 0)), (2, .int l2)] → W pp l ee ({ frames := 1, cells := 0, slots := 0, locals := 21 }) ss mm [.ref (ad 0 0), .int a1].toArray bb mt cd H locs 0 0 (MQ bb (hp_Qi D vwCl (hp_Tl cA) sz (cd_pic cA ad ca0 σ0) (fun r u => r = p.1 ∧ ∃ ca1, cd_inj ad ca1 ∧ u = cd_pic cA ad ca1 p.2)) [.ref (ad 0 0), .int a1].toArray ss 0 0 (hp_A (cd_pic cA ad ca0 σ0) sz)) (F0 mm 42 ls [.int t0]) := by
    intro ca hj σ l2 t0 H locs ls h hw hl
    refine lv_istore_n (lv' := [(3, .int t0), (0, .ref (ad 0 0)), (2, .int l2)]) cx.1 cx.2.1 dX0_isDraft_42 rfl hl (by decide) rfl (fun ls hl => ?_)
    refine lv_iload_n cx.1 cx.2.1 dX0_isDraft_43 rfl (lv_at hl 0 rfl) ?_
    refine lv_iload_n cx.1 cx.2.1 dX0_isDraft_44 rfl (lv_at hl 2 rfl) ?_
    refine lv_isub cx.1 cx.2.1 dX0_isDraft_45 ?_
    refine lv_aload_n cx.1 cx.2.1 dX0_isDraft_46 rfl (lv_at hl 1 rfl) ?_
    refine cd_gI (o := 0) (k := 5) (f := 5) hj cx hw hic0 rfl ⟨by decide, rfl, by decide, rfl⟩ rfl (by decide) (List.mem_cons_of_mem _ cm_29) dX0_isDraft_47 ?_
    refine lv_icmp_ne (tgt := 57) cx.1 cx.2.1 dX0_isDraft_50 (by decide) (fun c50 => ?_) (fun c50 => ?_)
    · have h := md_in c50 h
      refine lv_iconst (v := 0) cx.1 cx.2.1 dX0_isDraft_57 (by decide) ?_
      exact J58 _ hj σ l2 0 _ _ _ h hw (lv_sub hl [1, 2] rfl)
    · have h := md_ip c50 h
      refine lv_iconst (v := 1) cx.1 cx.2.1 dX0_isDraft_53 (by decide) ?_
      refine lv_goto (tgt := 58) cx.1 cx.2.1 dX0_isDraft_54 (by decide) ?_
      exact J58 _ hj σ l2 1 _ _ _ h hw (lv_sub hl [1, 2] rfl)
  refine lv_aload_n cx.1 cx.2.1 dX0_isDraft_0 rfl (lv_at hl 0 rfl) ?_
  refine cd_gO (o2 := 6) (e2 := 2) (o := 0) (k := 0) (f := 0) hj cx hw hic0 rfl ⟨by decide, rfl, by decide, rfl⟩ rfl (by decide) ⟨rfl, rfl⟩ (List.mem_cons_of_mem _ cm_1) dX0_isDraft_1 ?_
  refine lv_iload_n cx.1 cx.2.1 dX0_isDraft_4 rfl (lv_at hl 1 rfl) ?_
  obtain ⟨p5, e_p5, h⟩ := md_ob h
  refine hp_callVi (As := [.int a1]) (rest := []) cx hw (kc_X6_at l D cA E _ ad _ hj oq sgq sgv hE n σ0 2 a1 (by decide) p5 e_p5) (cwV 1 cx.2.2.2.2.2.1 (cd_giV cm_16 cm_17 cm_18 cm_5 cm_19) rfl rfl rfl hdc_X6_at ⟨Nat.le_of_ble_eq_true rfl, Nat.le_of_ble_eq_true rfl⟩) (cd_atO hj (by decide) (by decide)) rfl rfl hl.1 rfl (Nat.le_of_ble_eq_true rfl) dX0_isDraft_5 ⟨Nat.le_refl _, Nat.le_refl _⟩ (fun r u H locs hp hw => ?_)
  obtain ⟨rfl, ca, hj, rfl⟩ := hp
  refine lv_istore_n (lv' := [(2, .int p5.1), (0, .ref (ad 0 0)), (1, .int a1)]) cx.1 cx.2.1 dX0_isDraft_8 rfl hl (by decide) rfl (fun ls hl => ?_)
  refine lv_iload_n cx.1 cx.2.1 dX0_isDraft_9 rfl (lv_at hl 2 rfl) ?_
  refine lv_iconst (v := 1) cx.1 cx.2.1 dX0_isDraft_10 (by decide) ?_
  refine lv_iadd cx.1 cx.2.1 dX0_isDraft_11 ?_
  refine lv_aload_n cx.1 cx.2.1 dX0_isDraft_12 rfl (lv_at hl 1 rfl) ?_
  refine cd_gO (o2 := 6) (e2 := 2) (o := 0) (k := 0) (f := 0) hj cx hw hic0 rfl ⟨by decide, rfl, by decide, rfl⟩ rfl (by decide) ⟨rfl, rfl⟩ (List.mem_cons_of_mem _ cm_1) dX0_isDraft_13 ?_
  refine cd_gI (o := 6) (k := 1) (f := 193) hj cx hw hic6 rfl ⟨by decide, rfl, by decide, rfl⟩ rfl (by decide) (List.mem_cons_of_mem _ cm_14) dX0_isDraft_16 ?_
  refine lv_icmp_ge (tgt := 35) cx.1 cx.2.1 dX0_isDraft_19 (by decide) (fun c19 => ?_) (fun c19 => ?_)
  · have h := md_ip c19 h
    refine lv_aload_n cx.1 cx.2.1 dX0_isDraft_35 rfl (lv_at hl 1 rfl) ?_
    refine cd_gO (o2 := 6) (e2 := 3) (o := 0) (k := 1) (f := 1) hj cx hw hic0 rfl ⟨by decide, rfl, by decide, rfl⟩ rfl (by decide) ⟨rfl, rfl⟩ (List.mem_cons_of_mem _ cm_7) dX0_isDraft_36 ?_
    refine cd_gI (o := 6) (k := 1) (f := 193) hj cx hw hic6 rfl ⟨by decide, rfl, by decide, rfl⟩ rfl (by decide) (List.mem_cons_of_mem _ cm_14) dX0_isDraft_39 ?_
    exact J42 _ hj p5.2 (p5.1) ((cI p5.2 193 3)) _ _ _ h hw (lv_sub hl [1, 0] rfl)
  · have h := md_in c19 h
    refine lv_aload_n cx.1 cx.2.1 dX0_isDraft_22 rfl (lv_at hl 1 rfl) ?_
    refine cd_gO (o2 := 6) (e2 := 2) (o := 0) (k := 0) (f := 0) hj cx hw hic0 rfl ⟨by decide, rfl, by decide, rfl⟩ rfl (by decide) ⟨rfl, rfl⟩ (List.mem_cons_of_mem _ cm_1) dX0_isDraft_23 ?_
    refine lv_iload_n cx.1 cx.2.1 dX0_isDraft_26 rfl (lv_at hl 2 rfl) ?_
    refine lv_iconst (v := 1) cx.1 cx.2.1 dX0_isDraft_27 (by decide) ?_
    refine lv_iadd cx.1 cx.2.1 dX0_isDraft_28 ?_
    obtain ⟨p6, e_p6, h⟩ := md_ob h
    refine hp_callVi (As := [.int (a1 + 1)]) (rest := []) cx hw (kc_X6_at l D cA E _ ad _ hj oq sgq sgv hE n p5.2 2 ((a1 + 1)) (by decide) p6 e_p6) (cwV 1 cx.2.2.2.2.2.1 (cd_giV cm_16 cm_17 cm_18 cm_5 cm_19) rfl rfl rfl hdc_X6_at ⟨Nat.le_of_ble_eq_true rfl, Nat.le_of_ble_eq_true rfl⟩) (cd_atO hj (by decide) (by decide)) rfl rfl hl.1 rfl (Nat.le_of_ble_eq_true rfl) dX0_isDraft_29 ⟨Nat.le_refl _, Nat.le_refl _⟩ (fun r u H locs hp hw => ?_)
    obtain ⟨rfl, ca, hj, rfl⟩ := hp
    refine lv_goto (tgt := 42) cx.1 cx.2.1 dX0_isDraft_32 (by decide) ?_
    exact J42 _ hj p6.2 (p5.1) (p6.1) _ _ _ h hw (lv_sub hl [1, 0] rfl)
set_option maxHeartbeats 4000000 in
set_option maxRecDepth 100000 in
theorem kc_X6_add (l : Launch) (D : va_G) (cA : Nat → ClassId) (E : hp_N) (sz : Nat) (ad : Nat → Nat → Nat) (ca0 : Nat → Nat) (hj : cd_inj ad ca0) (oq sgq sgv : Nat) (hE : cd_E E oq sgq sgv) (n : Nat) (σ0 : cd_S) (b0 : cd_B) (a0 : Nat) (a1 : Int64) (hb_a0 : a0 < 197) (p : (Int32 × cd_S × cd_B)) (h : f_X6_add n σ0 b0 a0 a1 = some p) : (p.2.2.1 ≤ b0.1 ∧ p.2.2.2 ≤ b0.2) ∧ Met l yX6_add (Cond.code yX6_add cX6_add 3 none :: v_CLS) ({ frames := 3, cells := b0.1 - p.2.2.1, slots := b0.2 - p.2.2.2, locals := 89 }) (hp_Pc D vwCl (hp_Tl cA) E sz (cd_pic cA ad ca0 σ0) [.ref (ad 6 a0), .long a1]) (hp_Qv D vwCl (hp_Tl cA) sz (cd_pic cA ad ca0 σ0) (fun u => ∃ ca1, cd_inj ad ca1 ∧ u = cd_pic cA ad ca1 p.2.1)) (b0.1 - p.2.2.1) (b0.2 - p.2.2.2) (hp_A (cd_pic cA ad ca0 σ0) sz) := by
  obtain ⟨hm0, hn0, h⟩ := cd_cks h
  have hM0 : p.2.2.1 ≤ b0.1 ∧ p.2.2.2 ≤ b0.2 := ⟨hm0, hn0⟩
  refine ⟨hM0, ?_⟩
  refine hp_ofW (cc := cX6_add) (maxL := 3) (ret := none) (by decide) rfl (Nat.le_of_ble_eq_true rfl) ?_
  intro pp ee ss mm bb mt cd ls cx hsz hw hl
  have hl : lv_has ls 3 [(0, .ref (ad 6 a0)), (1, .long a1)] := hl
  refine W.widen (k := b0.1 - b0.1) (n := b0.2 - b0.2) (Nat.zero_le _) (Nat.zero_le _) ?_
  have J39 : ∀ (ca : Nat → Nat) (hj : cd_inj ad ca) (σ : cd_S) (b : cd_B) (l1 : Int64) (H : Heap) (locs : List Loc) (ls : Array Slot), b.1 ≤ b0.1 → b.2 ≤ b0.2 → p.2.2.1 ≤ b.1 → p.2.2.2 ≤ b.2 → f_X6_add_J39 n a0 σ b l1 = some p → hp_w D vwCl (hp_Tl cA) E (hp_A (cd_pic cA ad ca0 σ0) sz) ss H locs (cd_pic cA ad ca σ) → lv_has ls 3 [(0, .ref (ad 6 a0)), (1, .long l1)] → W pp l ee ({ frames := 3, cells := b0.1 - p.2.2.1, slots := b0.2 - p.2.2.2, locals := 89 }) ss mm [.ref (ad 6 a0), .long a1].toArray bb mt cd H locs (b0.1 - b.1) (b0.2 - b.2) (MQ bb (hp_Qv D vwCl (hp_Tl cA) sz (cd_pic cA ad ca0 σ0) (fun u => ∃ ca1, cd_inj ad ca1 ∧ u = cd_pic cA ad ca1 p.2.1)) [.ref (ad 6 a0), .long a1].toArray ss (b0.1 - p.2.2.1) (b0.2 - p.2.2.2) (hp_A (cd_pic cA ad ca0 σ0) sz)) (F0 mm 39 ls []) := by
    intro ca hj σ b l1 H locs ls hb1 hb2 hf1 hf2 h hw hl
    refine lv_aload_n cx.1 cx.2.1 dX6_add_39 rfl (lv_at hl 0 rfl) ?_
    refine cd_gC (o := 6) (k := 0) (f := 192) hj cx hw hic6 rfl ⟨by decide, rfl, by decide, rfl⟩ rfl (show _ < 197 by omega) (List.mem_cons_of_mem _ cm_15) dX6_add_40 ?_
    refine lv_aload_n cx.1 cx.2.1 dX6_add_43 rfl (lv_at hl 0 rfl) ?_
    refine cd_gI (o := 6) (k := 1) (f := 193) hj cx hw hic6 rfl ⟨by decide, rfl, by decide, rfl⟩ rfl (show _ < 197 by omega) (List.mem_cons_of_mem _ cm_0) dX6_add_44 ?_
    refine lv_lload_n cx.1 cx.2.1 dX6_add_47 rfl (lv_at hl 1 rfl) ?_
    obtain ⟨σ1, e_σ1, h⟩ := md_ob h
    refine cd_sF hj cx hw (show _ < 197 by omega) e_σ1 dX6_add_48 (fun H locs hw => ?_)
    refine lv_aload_n cx.1 cx.2.1 dX6_add_49 rfl (lv_at hl 0 rfl) ?_
    refine lv_dup cx.1 cx.2.1 dX6_add_50 rfl ?_
    refine cd_gI (o := 6) (k := 1) (f := 193) hj cx hw hic6 rfl ⟨by decide, rfl, by decide, rfl⟩ rfl (show _ < 197 by omega) (List.mem_cons_of_mem _ cm_0) dX6_add_51 ?_
    refine lv_iconst (v := 1) cx.1 cx.2.1 dX6_add_54 (by decide) ?_
    refine lv_iadd cx.1 cx.2.1 dX6_add_55 ?_
    obtain ⟨σ2, e_σ2, h⟩ := md_ob h
    refine cd_pI (o := 6) (k := 1) (f := 193) hj cx hw hic6 rfl ⟨by decide, rfl, by decide, rfl⟩ tyX6_ok nmX6 rfl (show _ < 197 by omega) rfl (List.mem_cons_of_mem _ cm_0) rfl e_σ2 dX6_add_56 (fun H locs hw => ?_)
    exact hp_vret cx hw ((cd_retb hj h).2) dX6_add_59 (cd_le1 h) (cd_le2 h)
  refine lv_aload_n cx.1 cx.2.1 dX6_add_0 rfl (lv_at hl 0 rfl) ?_
  refine cd_gI (o := 6) (k := 1) (f := 193) hj cx hw hic6 rfl ⟨by decide, rfl, by decide, rfl⟩ rfl (show _ < 197 by omega) (List.mem_cons_of_mem _ cm_0) dX6_add_1 ?_
  refine lv_ldc cx.1 cx.2.1 cx.2.2.2.2.1 (cx.2.2.2.2.2.1 _ (List.mem_cons_of_mem _ cm_35)) dX6_add_4 ?_
  refine lv_icmp_lt (tgt := 10) cx.1 cx.2.1 dX6_add_6 (by decide) (fun c6 => ?_) (fun c6 => ?_)
  · have h := md_ip c6 h
    refine lv_aload_n cx.1 cx.2.1 dX6_add_10 rfl (lv_at hl 0 rfl) ?_
    refine cd_gI (o := 6) (k := 1) (f := 193) hj cx hw hic6 rfl ⟨by decide, rfl, by decide, rfl⟩ rfl (show _ < 197 by omega) (List.mem_cons_of_mem _ cm_0) dX6_add_11 ?_
    refine lv_aload_n cx.1 cx.2.1 dX6_add_14 rfl (lv_at hl 0 rfl) ?_
    refine cd_gC (o := 6) (k := 0) (f := 192) hj cx hw hic6 rfl ⟨by decide, rfl, by decide, rfl⟩ rfl (show _ < 197 by omega) (List.mem_cons_of_mem _ cm_15) dX6_add_15 ?_
    refine cd_lenF hj cx hw (show _ < 197 by omega) dX6_add_18 ?_
    refine lv_icmp_lt (tgt := 39) cx.1 cx.2.1 dX6_add_19 (by decide) (fun c19 => ?_) (fun c19 => ?_)
    · have h := md_ip c19 h
      exact J39 _ hj σ0 b0 a1 _ _ _ (by omega) (by omega) (by omega) (by omega) h hw (lv_sub hl [0, 1] rfl)
    · have h := md_in c19 h
      refine lv_aload_n cx.1 cx.2.1 dX6_add_22 rfl (lv_at hl 0 rfl) ?_
      refine lv_aload_n cx.1 cx.2.1 dX6_add_23 rfl (lv_at hl 0 rfl) ?_
      refine cd_gC (o := 6) (k := 0) (f := 192) hj cx hw hic6 rfl ⟨by decide, rfl, by decide, rfl⟩ rfl (show _ < 197 by omega) (List.mem_cons_of_mem _ cm_15) dX6_add_24 ?_
      refine lv_aload_n cx.1 cx.2.1 dX6_add_27 rfl (lv_at hl 0 rfl) ?_
      refine cd_gI (o := 6) (k := 1) (f := 193) hj cx hw hic6 rfl ⟨by decide, rfl, by decide, rfl⟩ rfl (show _ < 197 by omega) (List.mem_cons_of_mem _ cm_0) dX6_add_28 ?_
      refine lv_iconst (v := 2) cx.1 cx.2.1 dX6_add_31 (by decide) ?_
      refine lv_imul cx.1 cx.2.1 dX6_add_32 ?_
      obtain ⟨p3, e_p3, h⟩ := md_ob h
      obtain ⟨hm4, hn4, h⟩ := cd_cks h
      have hM4 : p.2.2.1 ≤ p3.2.1 ∧ p.2.2.2 ≤ p3.2.2 := ⟨hm4, hn4⟩
      have hg3 := cd_grows e_p3
      refine cd_growW hj cx hw hb_a0 e_p3 cm_36 cm_37 cm_12 cm_38 cm_15 dX6_add_33 dX6_add_36 hl.1 ⟨by (try dsimp only); omega, by (try dsimp only); omega⟩ ⟨by (try dsimp only); omega, by (try dsimp only); omega⟩ (fun ca hj H locs hw => ?_)
      refine W.widen (k := b0.1 - p3.2.1) (n := b0.2 - p3.2.2) (by omega) (by omega) ?_
      exact J39 _ hj p3.1 (p3.2) a1 _ _ _ (by omega) (by omega) (by omega) (by omega) h hw (lv_sub hl [0, 1] rfl)
  · have h := md_in c6 h
    exact hp_vret cx hw ((cd_retb hj h).2) dX6_add_9 (cd_le1 h) (cd_le2 h)
set_option maxHeartbeats 4000000 in
set_option maxRecDepth 100000 in
theorem kc_X0_keep (l : Launch) (D : va_G) (cA : Nat → ClassId) (E : hp_N) (sz : Nat) (ad : Nat → Nat → Nat) (ca0 : Nat → Nat) (hj : cd_inj ad ca0) (oq sgq sgv : Nat) (hE : cd_E E oq sgq sgv) (n : Nat) (σ0 : cd_S) (b0 : cd_B) (a1 : Int32) (p : (Int32 × cd_S × cd_B)) (h : f_X0_keep n σ0 b0 a1 = some p) : (p.2.2.1 ≤ b0.1 ∧ p.2.2.2 ≤ b0.2) ∧ Met l yX0_keep (Cond.code yX0_keep cX0_keep 4 (some .int) :: v_CLS) ({ frames := 4, cells := b0.1 - p.2.2.1, slots := b0.2 - p.2.2.2, locals := 111 }) (hp_Pc D vwCl (hp_Tl cA) E sz (cd_pic cA ad ca0 σ0) [.ref (ad 0 0), .int a1]) (hp_Qi D vwCl (hp_Tl cA) sz (cd_pic cA ad ca0 σ0) (fun r u => r = p.1 ∧ ∃ ca1, cd_inj ad ca1 ∧ u = cd_pic cA ad ca1 p.2.1)) (b0.1 - p.2.2.1) (b0.2 - p.2.2.2) (hp_A (cd_pic cA ad ca0 σ0) sz) := by
  obtain ⟨hm0, hn0, h⟩ := cd_cks h
  have hM0 : p.2.2.1 ≤ b0.1 ∧ p.2.2.2 ≤ b0.2 := ⟨hm0, hn0⟩
  refine ⟨hM0, ?_⟩
  refine hp_ofW (cc := cX0_keep) (maxL := 4) (ret := (some .int)) (by decide) rfl (Nat.le_of_ble_eq_true rfl) ?_
  intro pp ee ss mm bb mt cd ls cx hsz hw hl
  have hl : lv_has ls 4 [(0, .ref (ad 0 0)), (1, .int a1)] := hl
  refine W.widen (k := b0.1 - b0.1) (n := b0.2 - b0.2) (Nat.zero_le _) (Nat.zero_le _) ?_
  refine lv_aload_n cx.1 cx.2.1 dX0_keep_0 rfl (lv_at hl 0 rfl) ?_
  refine cd_gO (o2 := 6) (e2 := 2) (o := 0) (k := 0) (f := 0) hj cx hw hic0 rfl ⟨by decide, rfl, by decide, rfl⟩ rfl (by decide) ⟨rfl, rfl⟩ (List.mem_cons_of_mem _ cm_1) dX0_keep_1 ?_
  refine cd_gI (o := 6) (k := 1) (f := 193) hj cx hw hic6 rfl ⟨by decide, rfl, by decide, rfl⟩ rfl (by decide) (List.mem_cons_of_mem _ cm_14) dX0_keep_4 ?_
  refine lv_istore_n (lv' := [(2, .int (cI σ0 193 2)), (0, .ref (ad 0 0)), (1, .int a1)]) cx.1 cx.2.1 dX0_keep_7 rfl hl (by decide) rfl (fun ls hl => ?_)
  refine lv_aload_n cx.1 cx.2.1 dX0_keep_8 rfl (lv_at hl 1 rfl) ?_
  refine cd_gO (o2 := 6) (e2 := 2) (o := 0) (k := 0) (f := 0) hj cx hw hic0 rfl ⟨by decide, rfl, by decide, rfl⟩ rfl (by decide) ⟨rfl, rfl⟩ (List.mem_cons_of_mem _ cm_1) dX0_keep_9 ?_
  refine lv_aload_n cx.1 cx.2.1 dX0_keep_12 rfl (lv_at hl 1 rfl) ?_
  refine cd_gO (o2 := 6) (e2 := 3) (o := 0) (k := 1) (f := 1) hj cx hw hic0 rfl ⟨by decide, rfl, by decide, rfl⟩ rfl (by decide) ⟨rfl, rfl⟩ (List.mem_cons_of_mem _ cm_7) dX0_keep_13 ?_
  refine cd_gI (o := 6) (k := 1) (f := 193) hj cx hw hic6 rfl ⟨by decide, rfl, by decide, rfl⟩ rfl (by decide) (List.mem_cons_of_mem _ cm_14) dX0_keep_16 ?_
  refine lv_i2l (v := ((cI σ0 193 3).toInt64)) cx.1 cx.2.1 dX0_keep_19 rfl ?_
  obtain ⟨p1, e_p1, h⟩ := md_ob h
  obtain ⟨hm2, hn2, h⟩ := cd_cks h
  have hM2 : p.2.2.1 ≤ p1.2.2.1 ∧ p.2.2.2 ≤ p1.2.2.2 := ⟨hm2, hn2⟩
  have hle1 := (kc_X6_add l D cA E sz ad _ hj oq sgq sgv hE n σ0 b0 2 (((cI σ0 193 3).toInt64)) (by decide) p1 e_p1).1
  refine hp_callVv (As := [.long ((cI σ0 193 3).toInt64)]) (rest := []) cx hw ((kc_X6_add l D cA E _ ad _ hj oq sgq sgv hE n σ0 b0 2 (((cI σ0 193 3).toInt64)) (by decide) p1 e_p1).2) (cwV 1 cx.2.2.2.2.2.1 (cd_giV cm_39 cm_40 cm_41 cm_5 cm_42) rfl rfl rfl hdc_X6_add ⟨Nat.le_of_ble_eq_true rfl, Nat.le_of_ble_eq_true rfl⟩) (cd_atO hj (by decide) (by decide)) rfl rfl hl.1 rfl (Nat.le_of_ble_eq_true rfl) dX0_keep_20 ⟨by (try dsimp only); omega, by (try dsimp only); omega⟩ (fun u H locs hp hw => ?_)
  obtain ⟨ca, hj, rfl⟩ := hp
  refine W.widen (k := b0.1 - p1.2.2.1) (n := b0.2 - p1.2.2.2) (by omega) (by omega) ?_
  refine lv_iconst (v := 0) cx.1 cx.2.1 dX0_keep_23 (by decide) ?_
  refine lv_istore_n (lv' := [(3, .int 0), (2, .int (cI σ0 193 2)), (0, .ref (ad 0 0)), (1, .int a1)]) cx.1 cx.2.1 dX0_keep_24 rfl hl (by decide) rfl (fun ls hl => ?_)
  have L25 : ∀ (j : Nat) (ca : Nat → Nat) (hj : cd_inj ad ca) (σ : cd_S) (b : cd_B) (l1 : Int32) (l2 : Int32) (l3 : Int32) (q : (cd_S × cd_B × Int32)) (H : Heap) (locs : List Loc) (ls : Array Slot), b.1 ≤ b0.1 → b.2 ≤ b0.2 → p.2.2.1 ≤ b.1 → p.2.2.2 ≤ b.2 → p.2.2.1 ≤ q.2.1.1 → p.2.2.2 ≤ q.2.1.2 → f_X0_keep_L25 n l1 l2 j σ b l3 = some q → hp_w D vwCl (hp_Tl cA) E (hp_A (cd_pic cA ad ca0 σ0) sz) ss H locs (cd_pic cA ad ca σ) → lv_has ls 4 [(0, .ref (ad 0 0)), (1, .int l1), (2, .int l2), (3, .int l3)] → (∀ (ca : Nat → Nat) (hj : cd_inj ad ca) (H : Heap) (locs : List Loc) (ls : Array Slot), q.2.1.1 ≤ b0.1 → q.2.1.2 ≤ b0.2 → hp_w D vwCl (hp_Tl cA) E (hp_A (cd_pic cA ad ca0 σ0) sz) ss H locs (cd_pic cA ad ca q.1) → lv_has ls 4 [(0, .ref (ad 0 0)), (1, .int l1), (2, .int l2)] → W pp l ee ({ frames := 4, cells := b0.1 - p.2.2.1, slots := b0.2 - p.2.2.2, locals := 111 }) ss mm [.ref (ad 0 0), .int a1].toArray bb mt cd H locs (b0.1 - q.2.1.1) (b0.2 - q.2.1.2) (MQ bb (hp_Qi D vwCl (hp_Tl cA) sz (cd_pic cA ad ca0 σ0) (fun r u => r = p.1 ∧ ∃ ca1, cd_inj ad ca1 ∧ u = cd_pic cA ad ca1 p.2.1)) [.ref (ad 0 0), .int a1].toArray ss (b0.1 - p.2.2.1) (b0.2 - p.2.2.2) (hp_A (cd_pic cA ad ca0 σ0) sz)) (F0 mm 53 ls [])) → W pp l ee ({ frames := 4, cells := b0.1 - p.2.2.1, slots := b0.2 - p.2.2.2, locals := 111 }) ss mm [.ref (ad 0 0), .int a1].toArray bb mt cd H locs (b0.1 - b.1) (b0.2 - b.2) (MQ bb (hp_Qi D vwCl (hp_Tl cA) sz (cd_pic cA ad ca0 σ0) (fun r u => r = p.1 ∧ ∃ ca1, cd_inj ad ca1 ∧ u = cd_pic cA ad ca1 p.2.1)) [.ref (ad 0 0), .int a1].toArray ss (b0.1 - p.2.2.1) (b0.2 - p.2.2.2) (hp_A (cd_pic cA ad ca0 σ0) sz)) (F0 mm 25 ls []) := by
    intro j
    induction j with
    | zero => intro ca hj σ b l1 l2 l3 q H locs ls hb1 hb2 hf1 hf2 hq1 hq2 h; exact nomatch h
    | succ j ih =>
      intro ca hj σ b l1 l2 l3 q H locs ls hb1 hb2 hf1 hf2 hq1 hq2 h hw hl K
      unfold f_X0_keep_L25 at h
      refine lv_iload_n cx.1 cx.2.1 dX0_keep_25 rfl (lv_at hl 3 rfl) ?_
      refine lv_aload_n cx.1 cx.2.1 dX0_keep_26 rfl (lv_at hl 0 rfl) ?_
      refine cd_gI (o := 0) (k := 5) (f := 5) hj cx hw hic0 rfl ⟨by decide, rfl, by decide, rfl⟩ rfl (by decide) (List.mem_cons_of_mem _ cm_29) dX0_keep_27 ?_
      refine lv_icmp_ge (tgt := 53) cx.1 cx.2.1 dX0_keep_30 (by decide) (fun c30 => ?_) (fun c30 => ?_)
      · have h := md_ip c30 h
        obtain rfl := Option.some.inj h
        exact K _ hj _ _ _ (by (try dsimp only); omega) (by (try dsimp only); omega) hw (lv_sub hl [0, 1, 2] rfl)
      · have h := md_in c30 h
        refine lv_aload_n cx.1 cx.2.1 dX0_keep_33 rfl (lv_at hl 0 rfl) ?_
        refine cd_gO (o2 := 6) (e2 := 3) (o := 0) (k := 1) (f := 1) hj cx hw hic0 rfl ⟨by decide, rfl, by decide, rfl⟩ rfl (by decide) ⟨rfl, rfl⟩ (List.mem_cons_of_mem _ cm_7) dX0_keep_34 ?_
        refine lv_aload_n cx.1 cx.2.1 dX0_keep_37 rfl (lv_at hl 0 rfl) ?_
        refine cd_gA (o := 0) (k := 4) (f := 4) hj cx hw hic0 rfl ⟨by decide, rfl, by decide, rfl⟩ rfl (by decide) (List.mem_cons_of_mem _ cm_30) dX0_keep_38 ?_
        refine lv_iload_n cx.1 cx.2.1 dX0_keep_41 rfl (lv_at hl 3 rfl) ?_
        obtain ⟨v3, e_v3, h⟩ := md_ob h
        refine cd_lI (f := 4) hj cx hw (by decide) (by decide) rfl e_v3 dX0_keep_42 ?_
        refine lv_i2l (v := (v3.toInt64)) cx.1 cx.2.1 dX0_keep_43 rfl ?_
        obtain ⟨p4, e_p4, h⟩ := md_ob h
        obtain ⟨hm5, hn5, h⟩ := cd_cks h
        have hM5 : p.2.2.1 ≤ p4.2.2.1 ∧ p.2.2.2 ≤ p4.2.2.2 := ⟨Nat.le_trans hq1 hm5, Nat.le_trans hq2 hn5⟩
        have hle4 := (kc_X6_add l D cA E sz ad _ hj oq sgq sgv hE n σ b 3 ((v3.toInt64)) (by decide) p4 e_p4).1
        refine hp_callVv (As := [.long (v3.toInt64)]) (rest := []) cx hw ((kc_X6_add l D cA E _ ad _ hj oq sgq sgv hE n σ b 3 ((v3.toInt64)) (by decide) p4 e_p4).2) (cwV 1 cx.2.2.2.2.2.1 (cd_giV cm_39 cm_40 cm_41 cm_5 cm_42) rfl rfl rfl hdc_X6_add ⟨Nat.le_of_ble_eq_true rfl, Nat.le_of_ble_eq_true rfl⟩) (cd_atO hj (by decide) (by decide)) rfl rfl hl.1 rfl (Nat.le_of_ble_eq_true rfl) dX0_keep_44 ⟨by (try dsimp only); omega, by (try dsimp only); omega⟩ (fun u H locs hp hw => ?_)
        obtain ⟨ca, hj, rfl⟩ := hp
        refine W.widen (k := b0.1 - p4.2.2.1) (n := b0.2 - p4.2.2.2) (by omega) (by omega) ?_
        refine lv_iinc (v := (l3 + 1)) (lv' := [(3, .int (l3 + 1)), (0, .ref (ad 0 0)), (1, .int l1), (2, .int l2)]) cx.1 cx.2.1 dX0_keep_47 hl (k := 3) rfl rfl (by decide) rfl (fun ls hl => ?_)
        refine lv_goto (tgt := 25) cx.1 cx.2.1 dX0_keep_50 (by decide) ?_
        exact ih _ hj p4.2.1 (p4.2.2) l1 l2 ((l3 + 1)) q _ _ _ (by omega) (by omega) (by omega) (by omega) hq1 hq2 h hw (lv_sub hl [1, 2, 3, 0] rfl) K
  obtain ⟨q6, e_q6, h⟩ := md_ob h
  obtain ⟨hm7, hn7, h⟩ := cd_cks h
  have hM7 : p.2.2.1 ≤ q6.2.1.1 ∧ p.2.2.2 ≤ q6.2.1.2 := ⟨hm7, hn7⟩
  refine L25 n _ hj p1.2.1 (p1.2.2) a1 ((cI σ0 193 2)) 0 q6 _ _ _ (by omega) (by omega) (by omega) (by omega) hM7.1 hM7.2 e_q6 hw (lv_sub hl [2, 3, 1, 0] rfl) (fun ca hj H locs ls hb1 hb2 hw hl => ?_)
  refine lv_iload_n cx.1 cx.2.1 dX0_keep_53 rfl (lv_at hl 1 rfl) ?_
  refine lv_if_lt (tgt := 85) cx.1 cx.2.1 dX0_keep_54 (by decide) (fun c54 => ?_) (fun c54 => ?_)
  · have h := md_ip c54 h
    refine lv_iload_n cx.1 cx.2.1 dX0_keep_85 rfl (lv_at hl 2 rfl) ?_
    exact hp_iret cx hw (cd_retb hj h) dX0_keep_86 (cd_le1 h) (cd_le2 h)
  · have h := md_in c54 h
    refine lv_iload_n cx.1 cx.2.1 dX0_keep_57 rfl (lv_at hl 1 rfl) ?_
    refine lv_sipush (v := 256) cx.1 cx.2.1 dX0_keep_58 (by decide) ?_
    refine lv_icmp_ge (tgt := 85) cx.1 cx.2.1 dX0_keep_61 (by decide) (fun c61 => ?_) (fun c61 => ?_)
    · have h := md_ip c61 h
      refine lv_iload_n cx.1 cx.2.1 dX0_keep_85 rfl (lv_at hl 2 rfl) ?_
      exact hp_iret cx hw (cd_retb hj h) dX0_keep_86 (cd_le1 h) (cd_le2 h)
    · have h := md_in c61 h
      refine lv_aload_n cx.1 cx.2.1 dX0_keep_64 rfl (lv_at hl 0 rfl) ?_
      refine cd_gO (o2 := 6) (e2 := 4) (o := 0) (k := 2) (f := 2) hj cx hw hic0 rfl ⟨by decide, rfl, by decide, rfl⟩ rfl (by decide) ⟨rfl, rfl⟩ (List.mem_cons_of_mem _ cm_8) dX0_keep_65 ?_
      refine lv_aload_n cx.1 cx.2.1 dX0_keep_68 rfl (lv_at hl 0 rfl) ?_
      refine cd_gA (o := 0) (k := 3) (f := 3) hj cx hw hic0 rfl ⟨by decide, rfl, by decide, rfl⟩ rfl (by decide) (List.mem_cons_of_mem _ cm_9) dX0_keep_69 ?_
      refine lv_iload_n cx.1 cx.2.1 dX0_keep_72 rfl (lv_at hl 1 rfl) ?_
      obtain ⟨v8, e_v8, h⟩ := md_ob h
      refine cd_lI (f := 3) hj cx hw (by decide) (by decide) rfl e_v8 dX0_keep_73 ?_
      refine lv_i2l (v := (v8.toInt64)) cx.1 cx.2.1 dX0_keep_74 rfl ?_
      obtain ⟨p9, e_p9, h⟩ := md_ob h
      obtain ⟨hm10, hn10, h⟩ := cd_cks h
      have hM10 : p.2.2.1 ≤ p9.2.2.1 ∧ p.2.2.2 ≤ p9.2.2.2 := ⟨hm10, hn10⟩
      have hle9 := (kc_X6_add l D cA E sz ad _ hj oq sgq sgv hE n q6.1 (q6.2.1) 4 ((v8.toInt64)) (by decide) p9 e_p9).1
      refine hp_callVv (As := [.long (v8.toInt64)]) (rest := []) cx hw ((kc_X6_add l D cA E _ ad _ hj oq sgq sgv hE n q6.1 (q6.2.1) 4 ((v8.toInt64)) (by decide) p9 e_p9).2) (cwV 1 cx.2.2.2.2.2.1 (cd_giV cm_39 cm_40 cm_41 cm_5 cm_42) rfl rfl rfl hdc_X6_add ⟨Nat.le_of_ble_eq_true rfl, Nat.le_of_ble_eq_true rfl⟩) (cd_atO hj (by decide) (by decide)) rfl rfl hl.1 rfl (Nat.le_of_ble_eq_true rfl) dX0_keep_75 ⟨by (try dsimp only); omega, by (try dsimp only); omega⟩ (fun u H locs hp hw => ?_)
      obtain ⟨ca, hj, rfl⟩ := hp
      refine W.widen (k := b0.1 - p9.2.2.1) (n := b0.2 - p9.2.2.2) (by omega) (by omega) ?_
      refine lv_aload_n cx.1 cx.2.1 dX0_keep_78 rfl (lv_at hl 0 rfl) ?_
      refine cd_gA (o := 0) (k := 3) (f := 3) hj cx hw hic0 rfl ⟨by decide, rfl, by decide, rfl⟩ rfl (by decide) (List.mem_cons_of_mem _ cm_9) dX0_keep_79 ?_
      refine lv_iload_n cx.1 cx.2.1 dX0_keep_82 rfl (lv_at hl 1 rfl) ?_
      refine lv_iload_n cx.1 cx.2.1 dX0_keep_83 rfl (lv_at hl 2 rfl) ?_
      obtain ⟨σ11, e_σ11, h⟩ := md_ob h
      refine cd_sI (f := 3) hj cx hw (by decide) (by decide) rfl e_σ11 dX0_keep_84 (fun H locs hw => ?_)
      refine lv_iload_n cx.1 cx.2.1 dX0_keep_85 rfl (lv_at hl 2 rfl) ?_
      exact hp_iret cx hw (cd_retb hj h) dX0_keep_86 (cd_le1 h) (cd_le2 h)
set_option maxHeartbeats 4000000 in
set_option maxRecDepth 100000 in
theorem kc_X0_hasAnother (l : Launch) (D : va_G) (cA : Nat → ClassId) (E : hp_N) (sz : Nat) (ad : Nat → Nat → Nat) (ca0 : Nat → Nat) (hj : cd_inj ad ca0) (oq sgq sgv : Nat) (hE : cd_E E oq sgq sgv) (n : Nat) (σ0 : cd_S) (a1 : Int32) (a2 : Int32) (a3 : Int32) (p : (Int32 × cd_S)) (h : f_X0_hasAnother n σ0 a1 a2 a3 = some p) : Met l yX0_hasAnother (Cond.code yX0_hasAnother cX0_hasAnother 6 (some .boolean) :: v_CLS) ({ frames := 0, cells := 0, slots := 0, locals := 0 }) (hp_Pc D vwCl (hp_Tl cA) E sz (cd_pic cA ad ca0 σ0) [.ref (ad 0 0), .int a1, .int a2, .int a3]) (hp_Qi D vwCl (hp_Tl cA) sz (cd_pic cA ad ca0 σ0) (fun r u => r = p.1 ∧ ∃ ca1, cd_inj ad ca1 ∧ u = cd_pic cA ad ca1 p.2)) 0 0 (hp_A (cd_pic cA ad ca0 σ0) sz) := by
  refine hp_ofW (cc := cX0_hasAnother) (maxL := 6) (ret := (some .boolean)) (by decide) rfl (Nat.le_of_ble_eq_true rfl) ?_
  intro pp ee ss mm bb mt cd ls cx hsz hw hl
  have hl : lv_has ls 6 [(0, .ref (ad 0 0)), (1, .int a1), (2, .int a2), (3, .int a3)] := hl
  refine lv_iconst (v := 0) cx.1 cx.2.1 dX0_hasAnother_0 (by decide) ?_
  refine lv_istore (lv' := [(4, .int 0), (0, .ref (ad 0 0)), (1, .int a1), (2, .int a2), (3, .int a3)]) cx.1 cx.2.1 dX0_hasAnother_1 hl (by decide) rfl (fun ls hl => ?_)
  refine lv_iconst (v := 0) cx.1 cx.2.1 dX0_hasAnother_3 (by decide) ?_
  refine lv_istore (lv' := [(5, .int 0), (4, .int 0), (0, .ref (ad 0 0)), (1, .int a1), (2, .int a2), (3, .int a3)]) cx.1 cx.2.1 dX0_hasAnother_4 hl (by decide) rfl (fun ls hl => ?_)
  have L6 : ∀ (j : Nat) (ca : Nat → Nat) (hj : cd_inj ad ca) (σ : cd_S) (l1 : Int32) (l2 : Int32) (l3 : Int32) (l4 : Int32) (l5 : Int32) (q : (cd_S × Int32 × Int32)) (H : Heap) (locs : List Loc) (ls : Array Slot), f_X0_hasAnother_L6 n l1 l2 l3 j σ l4 l5 = some q → hp_w D vwCl (hp_Tl cA) E (hp_A (cd_pic cA ad ca0 σ0) sz) ss H locs (cd_pic cA ad ca σ) → lv_has ls 6 [(0, .ref (ad 0 0)), (1, .int l1), (2, .int l2), (3, .int l3), (4, .int l4), (5, .int l5)] → (∀ (ca : Nat → Nat) (hj : cd_inj ad ca) (H : Heap) (locs : List Loc) (ls : Array Slot), hp_w D vwCl (hp_Tl cA) E (hp_A (cd_pic cA ad ca0 σ0) sz) ss H locs (cd_pic cA ad ca q.1) → lv_has ls 6 [(4, .int q.2.1)] → W pp l ee ({ frames := 0, cells := 0, slots := 0, locals := 0 }) ss mm [.ref (ad 0 0), .int a1, .int a2, .int a3].toArray bb mt cd H locs 0 0 (MQ bb (hp_Qi D vwCl (hp_Tl cA) sz (cd_pic cA ad ca0 σ0) (fun r u => r = p.1 ∧ ∃ ca1, cd_inj ad ca1 ∧ u = cd_pic cA ad ca1 p.2)) [.ref (ad 0 0), .int a1, .int a2, .int a3].toArray ss 0 0 (hp_A (cd_pic cA ad ca0 σ0) sz)) (F0 mm 59 ls [])) → W pp l ee ({ frames := 0, cells := 0, slots := 0, locals := 0 }) ss mm [.ref (ad 0 0), .int a1, .int a2, .int a3].toArray bb mt cd H locs 0 0 (MQ bb (hp_Qi D vwCl (hp_Tl cA) sz (cd_pic cA ad ca0 σ0) (fun r u => r = p.1 ∧ ∃ ca1, cd_inj ad ca1 ∧ u = cd_pic cA ad ca1 p.2)) [.ref (ad 0 0), .int a1, .int a2, .int a3].toArray ss 0 0 (hp_A (cd_pic cA ad ca0 σ0) sz)) (F0 mm 6 ls []) := by
    intro j
    induction j with
    | zero => intro ca hj σ l1 l2 l3 l4 l5 q H locs ls h; exact nomatch h
    | succ j ih =>
      intro ca hj σ l1 l2 l3 l4 l5 q H locs ls h hw hl K
      unfold f_X0_hasAnother_L6 at h
      have J53 : ∀ (ca : Nat → Nat) (hj : cd_inj ad ca) (σ : cd_S) (l4 : Int32) (l5 : Int32) (H : Heap) (locs : List Loc) (ls : Array Slot), f_X0_hasAnother_J53 n l1 l2 l3 (f_X0_hasAnother_L6 n l1 l2 l3 j) σ l4 l5 = some q → hp_w D vwCl (hp_Tl cA) E (hp_A (cd_pic cA ad ca0 σ0) sz) ss H locs (cd_pic cA ad ca σ) → lv_has ls 6 [(0, .ref (ad 0 0)), (1, .int l1), (2, .int l2), (3, .int l3), (4, .int l4), (5, .int l5)] → W pp l ee ({ frames := 0, cells := 0, slots := 0, locals := 0 }) ss mm [.ref (ad 0 0), .int a1, .int a2, .int a3].toArray bb mt cd H locs 0 0 (MQ bb (hp_Qi D vwCl (hp_Tl cA) sz (cd_pic cA ad ca0 σ0) (fun r u => r = p.1 ∧ ∃ ca1, cd_inj ad ca1 ∧ u = cd_pic cA ad ca1 p.2)) [.ref (ad 0 0), .int a1, .int a2, .int a3].toArray ss 0 0 (hp_A (cd_pic cA ad ca0 σ0) sz)) (F0 mm 53 ls []) := by
        intro ca hj σ l4 l5 H locs ls h hw hl
        refine lv_iinc (v := (l5 + 1)) (lv' := [(5, .int (l5 + 1)), (0, .ref (ad 0 0)), (1, .int l1), (2, .int l2), (3, .int l3), (4, .int l4)]) cx.1 cx.2.1 dX0_hasAnother_53 hl (k := 5) rfl rfl (by decide) rfl (fun ls hl => ?_)
        refine lv_goto (tgt := 6) cx.1 cx.2.1 dX0_hasAnother_56 (by decide) ?_
        exact ih _ hj σ l1 l2 l3 l4 ((l5 + 1)) q _ _ _ h hw (lv_sub hl [1, 2, 3, 4, 5, 0] rfl) K
      have J51 : ∀ (ca : Nat → Nat) (hj : cd_inj ad ca) (σ : cd_S) (l5 : Int32) (t0 : Int32) (H : Heap) (locs : List Loc) (ls : Array Slot), f_X0_hasAnother_J51 n l1 l2 l3 (f_X0_hasAnother_L6 n l1 l2 l3 j) σ l5 t0 = some q → hp_w D vwCl (hp_Tl cA) E (hp_A (cd_pic cA ad ca0 σ0) sz) ss H locs (cd_pic cA ad ca σ) → lv_has ls 6 [(0, .ref (ad 0 0)), (1, .int l1), (2, .int l2), (3, .int l3), (5, .int l5)] → W pp l ee ({ frames := 0, cells := 0, slots := 0, locals := 0 }) ss mm [.ref (ad 0 0), .int a1, .int a2, .int a3].toArray bb mt cd H locs 0 0 (MQ bb (hp_Qi D vwCl (hp_Tl cA) sz (cd_pic cA ad ca0 σ0) (fun r u => r = p.1 ∧ ∃ ca1, cd_inj ad ca1 ∧ u = cd_pic cA ad ca1 p.2)) [.ref (ad 0 0), .int a1, .int a2, .int a3].toArray ss 0 0 (hp_A (cd_pic cA ad ca0 σ0) sz)) (F0 mm 51 ls [.int t0]) := by
        intro ca hj σ l5 t0 H locs ls h hw hl
        refine lv_istore (lv' := [(4, .int t0), (0, .ref (ad 0 0)), (1, .int l1), (2, .int l2), (3, .int l3), (5, .int l5)]) cx.1 cx.2.1 dX0_hasAnother_51 hl (by decide) rfl (fun ls hl => ?_)
        exact J53 _ hj σ t0 l5 _ _ _ h hw (lv_sub hl [1, 2, 3, 4, 0, 5] rfl)
      have J32 : ∀ (ca : Nat → Nat) (hj : cd_inj ad ca) (σ : cd_S) (l5 : Int32) (H : Heap) (locs : List Loc) (ls : Array Slot), f_X0_hasAnother_J32 n l1 l2 l3 (f_X0_hasAnother_L6 n l1 l2 l3 j) σ l5 = some q → hp_w D vwCl (hp_Tl cA) E (hp_A (cd_pic cA ad ca0 σ0) sz) ss H locs (cd_pic cA ad ca σ) → lv_has ls 6 [(0, .ref (ad 0 0)), (1, .int l1), (2, .int l2), (3, .int l3), (5, .int l5)] → W pp l ee ({ frames := 0, cells := 0, slots := 0, locals := 0 }) ss mm [.ref (ad 0 0), .int a1, .int a2, .int a3].toArray bb mt cd H locs 0 0 (MQ bb (hp_Qi D vwCl (hp_Tl cA) sz (cd_pic cA ad ca0 σ0) (fun r u => r = p.1 ∧ ∃ ca1, cd_inj ad ca1 ∧ u = cd_pic cA ad ca1 p.2)) [.ref (ad 0 0), .int a1, .int a2, .int a3].toArray ss 0 0 (hp_A (cd_pic cA ad ca0 σ0) sz)) (F0 mm 32 ls []) := by
        intro ca hj σ l5 H locs ls h hw hl
        refine lv_aload_n cx.1 cx.2.1 dX0_hasAnother_32 rfl (lv_at hl 0 rfl) ?_
        refine cd_gA (o := 0) (k := 4) (f := 4) hj cx hw hic0 rfl ⟨by decide, rfl, by decide, rfl⟩ rfl (by decide) (List.mem_cons_of_mem _ cm_30) dX0_hasAnother_33 ?_
        refine lv_iload cx.1 cx.2.1 dX0_hasAnother_36 (lv_at hl 4 rfl) ?_
        obtain ⟨v1, e_v1, h⟩ := md_ob h
        refine cd_lI (f := 4) hj cx hw (by decide) (by decide) rfl e_v1 dX0_hasAnother_38 ?_
        refine lv_iload_n cx.1 cx.2.1 dX0_hasAnother_39 rfl (lv_at hl 1 rfl) ?_
        refine lv_iconst (v := (-1)) cx.1 cx.2.1 dX0_hasAnother_40 (by decide) ?_
        refine lv_ixor cx.1 cx.2.1 dX0_hasAnother_41 ?_
        refine lv_iand cx.1 cx.2.1 dX0_hasAnother_42 ?_
        refine lv_if_ne (tgt := 50) cx.1 cx.2.1 dX0_hasAnother_43 (by decide) (fun c43 => ?_) (fun c43 => ?_)
        · have h := md_in c43 h
          refine lv_iconst (v := 0) cx.1 cx.2.1 dX0_hasAnother_50 (by decide) ?_
          exact J51 _ hj σ l5 0 _ _ _ h hw (lv_sub hl [0, 1, 2, 3, 4] rfl)
        · have h := md_ip c43 h
          refine lv_iconst (v := 1) cx.1 cx.2.1 dX0_hasAnother_46 (by decide) ?_
          refine lv_goto (tgt := 51) cx.1 cx.2.1 dX0_hasAnother_47 (by decide) ?_
          exact J51 _ hj σ l5 1 _ _ _ h hw (lv_sub hl [0, 1, 2, 3, 4] rfl)
      refine lv_iload cx.1 cx.2.1 dX0_hasAnother_6 (lv_at hl 4 rfl) ?_
      refine lv_if_ne (tgt := 59) cx.1 cx.2.1 dX0_hasAnother_8 (by decide) (fun c8 => ?_) (fun c8 => ?_)
      · have h := md_in c8 h
        obtain rfl := Option.some.inj h
        exact K _ hj _ _ _ hw (lv_sub hl [4] rfl)
      · have h := md_ip c8 h
        refine lv_iload cx.1 cx.2.1 dX0_hasAnother_11 (lv_at hl 5 rfl) ?_
        refine lv_aload_n cx.1 cx.2.1 dX0_hasAnother_13 rfl (lv_at hl 0 rfl) ?_
        refine cd_gI (o := 0) (k := 5) (f := 5) hj cx hw hic0 rfl ⟨by decide, rfl, by decide, rfl⟩ rfl (by decide) (List.mem_cons_of_mem _ cm_29) dX0_hasAnother_14 ?_
        refine lv_icmp_ge (tgt := 59) cx.1 cx.2.1 dX0_hasAnother_17 (by decide) (fun c17 => ?_) (fun c17 => ?_)
        · have h := md_ip c17 h
          obtain rfl := Option.some.inj h
          exact K _ hj _ _ _ hw (lv_sub hl [4] rfl)
        · have h := md_in c17 h
          refine lv_iload cx.1 cx.2.1 dX0_hasAnother_20 (lv_at hl 5 rfl) ?_
          refine lv_iload_n cx.1 cx.2.1 dX0_hasAnother_22 rfl (lv_at hl 3 rfl) ?_
          refine lv_icmp_lt (tgt := 32) cx.1 cx.2.1 dX0_hasAnother_23 (by decide) (fun c23 => ?_) (fun c23 => ?_)
          · have h := md_ip c23 h
            exact J32 _ hj σ l5 _ _ _ h hw (lv_sub hl [0, 1, 2, 3, 5] rfl)
          · have h := md_in c23 h
            refine lv_iload cx.1 cx.2.1 dX0_hasAnother_26 (lv_at hl 5 rfl) ?_
            refine lv_iload_n cx.1 cx.2.1 dX0_hasAnother_28 rfl (lv_at hl 2 rfl) ?_
            refine lv_icmp_le (tgt := 53) cx.1 cx.2.1 dX0_hasAnother_29 (by decide) (fun c29 => ?_) (fun c29 => ?_)
            · have h := md_ip c29 h
              exact J53 _ hj σ l4 l5 _ _ _ h hw (lv_sub hl [0, 1, 2, 3, 4, 5] rfl)
            · have h := md_in c29 h
              exact J32 _ hj σ l5 _ _ _ h hw (lv_sub hl [0, 1, 2, 3, 5] rfl)
  obtain ⟨q2, e_q2, h⟩ := md_ob h
  refine L6 n _ hj σ0 a1 a2 a3 0 0 q2 _ _ _ e_q2 hw (lv_sub hl [2, 3, 4, 5, 1, 0] rfl) (fun ca hj H locs ls hw hl => ?_)
  refine lv_iload cx.1 cx.2.1 dX0_hasAnother_59 (lv_at hl 0 rfl) ?_
  obtain ⟨z3, e_z3, h⟩ := md_ob h
  rw [(md_zbs e_z3).1] at h
  exact hp_zret cx hw (cd_ret hj h) (md_nbn (md_zbs e_z3).2) dX0_hasAnother_61
set_option maxHeartbeats 4000000 in
set_option maxRecDepth 100000 in
theorem kc_X0_reduce (l : Launch) (D : va_G) (cA : Nat → ClassId) (E : hp_N) (sz : Nat) (ad : Nat → Nat → Nat) (ca0 : Nat → Nat) (hj : cd_inj ad ca0) (oq sgq sgv : Nat) (hE : cd_E E oq sgq sgv) (n : Nat) (σ0 : cd_S) (p : (Int32 × cd_S)) (h : f_X0_reduce n σ0 = some p) : Met l yX0_reduce (Cond.code yX0_reduce cX0_reduce 3 none :: v_CLS) ({ frames := 1, cells := 0, slots := 0, locals := 25 }) (hp_Pc D vwCl (hp_Tl cA) E sz (cd_pic cA ad ca0 σ0) [.ref (ad 0 0)]) (hp_Qv D vwCl (hp_Tl cA) sz (cd_pic cA ad ca0 σ0) (fun u => ∃ ca1, cd_inj ad ca1 ∧ u = cd_pic cA ad ca1 p.2)) 0 0 (hp_A (cd_pic cA ad ca0 σ0) sz) := by
  refine hp_ofW (cc := cX0_reduce) (maxL := 3) (ret := none) (by decide) rfl (Nat.le_of_ble_eq_true rfl) ?_
  intro pp ee ss mm bb mt cd ls cx hsz hw hl
  have hl : lv_has ls 3 [(0, .ref (ad 0 0))] := hl
  refine lv_iconst (v := 0) cx.1 cx.2.1 dX0_reduce_0 (by decide) ?_
  refine lv_istore_n (lv' := [(1, .int 0), (0, .ref (ad 0 0))]) cx.1 cx.2.1 dX0_reduce_1 rfl hl (by decide) rfl (fun ls hl => ?_)
  refine lv_iconst (v := 0) cx.1 cx.2.1 dX0_reduce_2 (by decide) ?_
  refine lv_istore_n (lv' := [(2, .int 0), (1, .int 0), (0, .ref (ad 0 0))]) cx.1 cx.2.1 dX0_reduce_3 rfl hl (by decide) rfl (fun ls hl => ?_)
  have L4 : ∀ (j : Nat) (ca : Nat → Nat) (hj : cd_inj ad ca) (σ : cd_S) (l1 : Int32) (l2 : Int32) (q : (cd_S × Int32 × Int32)) (H : Heap) (locs : List Loc) (ls : Array Slot), f_X0_reduce_L4 n j σ l1 l2 = some q → hp_w D vwCl (hp_Tl cA) E (hp_A (cd_pic cA ad ca0 σ0) sz) ss H locs (cd_pic cA ad ca σ) → lv_has ls 3 [(0, .ref (ad 0 0)), (1, .int l1), (2, .int l2)] → (∀ (ca : Nat → Nat) (hj : cd_inj ad ca) (H : Heap) (locs : List Loc) (ls : Array Slot), hp_w D vwCl (hp_Tl cA) E (hp_A (cd_pic cA ad ca0 σ0) sz) ss H locs (cd_pic cA ad ca q.1) → lv_has ls 3 [(0, .ref (ad 0 0)), (1, .int q.2.1)] → W pp l ee ({ frames := 1, cells := 0, slots := 0, locals := 25 }) ss mm [.ref (ad 0 0)].toArray bb mt cd H locs 0 0 (MQ bb (hp_Qv D vwCl (hp_Tl cA) sz (cd_pic cA ad ca0 σ0) (fun u => ∃ ca1, cd_inj ad ca1 ∧ u = cd_pic cA ad ca1 p.2)) [.ref (ad 0 0)].toArray ss 0 0 (hp_A (cd_pic cA ad ca0 σ0) sz)) (F0 mm 48 ls [])) → W pp l ee ({ frames := 1, cells := 0, slots := 0, locals := 25 }) ss mm [.ref (ad 0 0)].toArray bb mt cd H locs 0 0 (MQ bb (hp_Qv D vwCl (hp_Tl cA) sz (cd_pic cA ad ca0 σ0) (fun u => ∃ ca1, cd_inj ad ca1 ∧ u = cd_pic cA ad ca1 p.2)) [.ref (ad 0 0)].toArray ss 0 0 (hp_A (cd_pic cA ad ca0 σ0) sz)) (F0 mm 4 ls []) := by
    intro j
    induction j with
    | zero => intro ca hj σ l1 l2 q H locs ls h; exact nomatch h
    | succ j ih =>
      intro ca hj σ l1 l2 q H locs ls h hw hl K
      unfold f_X0_reduce_L4 at h
      have J42 : ∀ (ca : Nat → Nat) (hj : cd_inj ad ca) (σ : cd_S) (l1 : Int32) (l2 : Int32) (H : Heap) (locs : List Loc) (ls : Array Slot), f_X0_reduce_J42 n (f_X0_reduce_L4 n j) σ l1 l2 = some q → hp_w D vwCl (hp_Tl cA) E (hp_A (cd_pic cA ad ca0 σ0) sz) ss H locs (cd_pic cA ad ca σ) → lv_has ls 3 [(0, .ref (ad 0 0)), (1, .int l1), (2, .int l2)] → W pp l ee ({ frames := 1, cells := 0, slots := 0, locals := 25 }) ss mm [.ref (ad 0 0)].toArray bb mt cd H locs 0 0 (MQ bb (hp_Qv D vwCl (hp_Tl cA) sz (cd_pic cA ad ca0 σ0) (fun u => ∃ ca1, cd_inj ad ca1 ∧ u = cd_pic cA ad ca1 p.2)) [.ref (ad 0 0)].toArray ss 0 0 (hp_A (cd_pic cA ad ca0 σ0) sz)) (F0 mm 42 ls []) := by
        intro ca hj σ l1 l2 H locs ls h hw hl
        refine lv_iinc (v := (l2 + 1)) (lv' := [(2, .int (l2 + 1)), (0, .ref (ad 0 0)), (1, .int l1)]) cx.1 cx.2.1 dX0_reduce_42 hl (k := 2) rfl rfl (by decide) rfl (fun ls hl => ?_)
        refine lv_goto (tgt := 4) cx.1 cx.2.1 dX0_reduce_45 (by decide) ?_
        exact ih _ hj σ l1 ((l2 + 1)) q _ _ _ h hw (lv_sub hl [1, 2, 0] rfl) K
      refine lv_iload_n cx.1 cx.2.1 dX0_reduce_4 rfl (lv_at hl 2 rfl) ?_
      refine lv_aload_n cx.1 cx.2.1 dX0_reduce_5 rfl (lv_at hl 0 rfl) ?_
      refine cd_gI (o := 0) (k := 5) (f := 5) hj cx hw hic0 rfl ⟨by decide, rfl, by decide, rfl⟩ rfl (by decide) (List.mem_cons_of_mem _ cm_29) dX0_reduce_6 ?_
      refine lv_icmp_ge (tgt := 48) cx.1 cx.2.1 dX0_reduce_9 (by decide) (fun c9 => ?_) (fun c9 => ?_)
      · have h := md_ip c9 h
        obtain rfl := Option.some.inj h
        exact K _ hj _ _ _ hw (lv_sub hl [0, 1] rfl)
      · have h := md_in c9 h
        refine lv_aload_n cx.1 cx.2.1 dX0_reduce_12 rfl (lv_at hl 0 rfl) ?_
        refine lv_aload_n cx.1 cx.2.1 dX0_reduce_13 rfl (lv_at hl 0 rfl) ?_
        refine cd_gA (o := 0) (k := 4) (f := 4) hj cx hw hic0 rfl ⟨by decide, rfl, by decide, rfl⟩ rfl (by decide) (List.mem_cons_of_mem _ cm_30) dX0_reduce_14 ?_
        refine lv_iload_n cx.1 cx.2.1 dX0_reduce_17 rfl (lv_at hl 2 rfl) ?_
        obtain ⟨v1, e_v1, h⟩ := md_ob h
        refine cd_lI (f := 4) hj cx hw (by decide) (by decide) rfl e_v1 dX0_reduce_18 ?_
        refine lv_iload_n cx.1 cx.2.1 dX0_reduce_19 rfl (lv_at hl 2 rfl) ?_
        refine lv_iload_n cx.1 cx.2.1 dX0_reduce_20 rfl (lv_at hl 1 rfl) ?_
        obtain ⟨p2, e_p2, h⟩ := md_ob h
        refine hp_callVi (As := [.int v1, .int l2, .int l1]) (rest := []) cx hw (kc_X0_hasAnother l D cA E _ ad _ hj oq sgq sgv hE n σ v1 l2 l1 p2 e_p2) (cwV 3 cx.2.2.2.2.2.1 (cd_giV cm_43 cm_44 cm_45 cm_23 cm_46) rfl rfl rfl hdc_X0_hasAnother ⟨Nat.le_of_ble_eq_true rfl, Nat.le_of_ble_eq_true rfl⟩) (cd_atO hj (by decide) (by decide)) rfl rfl hl.1 rfl (Nat.le_of_ble_eq_true rfl) dX0_reduce_21 ⟨Nat.le_refl _, Nat.le_refl _⟩ (fun r u H locs hp hw => ?_)
        obtain ⟨rfl, ca, hj, rfl⟩ := hp
        refine lv_if_ne (tgt := 42) cx.1 cx.2.1 dX0_reduce_24 (by decide) (fun c24 => ?_) (fun c24 => ?_)
        · have h := md_in c24 h
          exact J42 _ hj p2.2 l1 l2 _ _ _ h hw (lv_sub hl [0, 1, 2] rfl)
        · have h := md_ip c24 h
          refine lv_aload_n cx.1 cx.2.1 dX0_reduce_27 rfl (lv_at hl 0 rfl) ?_
          refine cd_gA (o := 0) (k := 4) (f := 4) hj cx hw hic0 rfl ⟨by decide, rfl, by decide, rfl⟩ rfl (by decide) (List.mem_cons_of_mem _ cm_30) dX0_reduce_28 ?_
          refine lv_iload_n cx.1 cx.2.1 dX0_reduce_31 rfl (lv_at hl 1 rfl) ?_
          refine lv_aload_n cx.1 cx.2.1 dX0_reduce_32 rfl (lv_at hl 0 rfl) ?_
          refine cd_gA (o := 0) (k := 4) (f := 4) hj cx hw hic0 rfl ⟨by decide, rfl, by decide, rfl⟩ rfl (by decide) (List.mem_cons_of_mem _ cm_30) dX0_reduce_33 ?_
          refine lv_iload_n cx.1 cx.2.1 dX0_reduce_36 rfl (lv_at hl 2 rfl) ?_
          obtain ⟨v3, e_v3, h⟩ := md_ob h
          refine cd_lI (f := 4) hj cx hw (by decide) (by decide) rfl e_v3 dX0_reduce_37 ?_
          obtain ⟨σ4, e_σ4, h⟩ := md_ob h
          refine cd_sI (f := 4) hj cx hw (by decide) (by decide) rfl e_σ4 dX0_reduce_38 (fun H locs hw => ?_)
          refine lv_iinc (v := (l1 + 1)) (lv' := [(1, .int (l1 + 1)), (0, .ref (ad 0 0)), (2, .int l2)]) cx.1 cx.2.1 dX0_reduce_39 hl (k := 1) rfl rfl (by decide) rfl (fun ls hl => ?_)
          exact J42 _ hj σ4 ((l1 + 1)) l2 _ _ _ h hw (lv_sub hl [1, 0, 2] rfl)
  obtain ⟨q5, e_q5, h⟩ := md_ob h
  refine L4 n _ hj σ0 0 0 q5 _ _ _ e_q5 hw (lv_sub hl [2, 1, 0] rfl) (fun ca hj H locs ls hw hl => ?_)
  refine lv_aload_n cx.1 cx.2.1 dX0_reduce_48 rfl (lv_at hl 0 rfl) ?_
  refine lv_iload_n cx.1 cx.2.1 dX0_reduce_49 rfl (lv_at hl 1 rfl) ?_
  obtain ⟨σ6, e_σ6, h⟩ := md_ob h
  refine cd_pI (o := 0) (k := 5) (f := 5) hj cx hw hic0 rfl ⟨by decide, rfl, by decide, rfl⟩ tyX0_ok nmX0 rfl (by decide) rfl (List.mem_cons_of_mem _ cm_29) rfl e_σ6 dX0_reduce_50 (fun H locs hw => ?_)
  exact hp_vret cx hw ((cd_ret hj h).2) dX0_reduce_53
set_option maxHeartbeats 4000000 in
set_option maxRecDepth 100000 in
theorem kc_X0_sort (l : Launch) (D : va_G) (cA : Nat → ClassId) (E : hp_N) (sz : Nat) (ad : Nat → Nat → Nat) (ca0 : Nat → Nat) (hj : cd_inj ad ca0) (oq sgq sgv : Nat) (hE : cd_E E oq sgq sgv) (n : Nat) (σ0 : cd_S) (p : (Int32 × cd_S)) (h : f_X0_sort n σ0 = some p) : Met l yX0_sort (Cond.code yX0_sort cX0_sort 4 none :: v_CLS) ({ frames := 0, cells := 0, slots := 0, locals := 0 }) (hp_Pc D vwCl (hp_Tl cA) E sz (cd_pic cA ad ca0 σ0) [.ref (ad 0 0)]) (hp_Qv D vwCl (hp_Tl cA) sz (cd_pic cA ad ca0 σ0) (fun u => ∃ ca1, cd_inj ad ca1 ∧ u = cd_pic cA ad ca1 p.2)) 0 0 (hp_A (cd_pic cA ad ca0 σ0) sz) := by
  refine hp_ofW (cc := cX0_sort) (maxL := 4) (ret := none) (by decide) rfl (Nat.le_of_ble_eq_true rfl) ?_
  intro pp ee ss mm bb mt cd ls cx hsz hw hl
  have hl : lv_has ls 4 [(0, .ref (ad 0 0))] := hl
  refine lv_iconst (v := 1) cx.1 cx.2.1 dX0_sort_0 (by decide) ?_
  refine lv_istore_n (lv' := [(1, .int 1), (0, .ref (ad 0 0))]) cx.1 cx.2.1 dX0_sort_1 rfl hl (by decide) rfl (fun ls hl => ?_)
  have L2 : ∀ (j : Nat) (ca : Nat → Nat) (hj : cd_inj ad ca) (σ : cd_S) (l1 : Int32) (q : (cd_S × Int32)) (H : Heap) (locs : List Loc) (ls : Array Slot), f_X0_sort_L2 n j σ l1 = some q → hp_w D vwCl (hp_Tl cA) E (hp_A (cd_pic cA ad ca0 σ0) sz) ss H locs (cd_pic cA ad ca σ) → lv_has ls 4 [(0, .ref (ad 0 0)), (1, .int l1)] → (∀ (ca : Nat → Nat) (hj : cd_inj ad ca) (H : Heap) (locs : List Loc) (ls : Array Slot), hp_w D vwCl (hp_Tl cA) E (hp_A (cd_pic cA ad ca0 σ0) sz) ss H locs (cd_pic cA ad ca q.1) → lv_has ls 4 [] → W pp l ee ({ frames := 0, cells := 0, slots := 0, locals := 0 }) ss mm [.ref (ad 0 0)].toArray bb mt cd H locs 0 0 (MQ bb (hp_Qv D vwCl (hp_Tl cA) sz (cd_pic cA ad ca0 σ0) (fun u => ∃ ca1, cd_inj ad ca1 ∧ u = cd_pic cA ad ca1 p.2)) [.ref (ad 0 0)].toArray ss 0 0 (hp_A (cd_pic cA ad ca0 σ0) sz)) (F0 mm 68 ls [])) → W pp l ee ({ frames := 0, cells := 0, slots := 0, locals := 0 }) ss mm [.ref (ad 0 0)].toArray bb mt cd H locs 0 0 (MQ bb (hp_Qv D vwCl (hp_Tl cA) sz (cd_pic cA ad ca0 σ0) (fun u => ∃ ca1, cd_inj ad ca1 ∧ u = cd_pic cA ad ca1 p.2)) [.ref (ad 0 0)].toArray ss 0 0 (hp_A (cd_pic cA ad ca0 σ0) sz)) (F0 mm 2 ls []) := by
    intro j
    induction j with
    | zero => intro ca hj σ l1 q H locs ls h; exact nomatch h
    | succ j ih =>
      intro ca hj σ l1 q H locs ls h hw hl K
      unfold f_X0_sort_L2 at h
      refine lv_iload_n cx.1 cx.2.1 dX0_sort_2 rfl (lv_at hl 1 rfl) ?_
      refine lv_aload_n cx.1 cx.2.1 dX0_sort_3 rfl (lv_at hl 0 rfl) ?_
      refine cd_gI (o := 0) (k := 5) (f := 5) hj cx hw hic0 rfl ⟨by decide, rfl, by decide, rfl⟩ rfl (by decide) (List.mem_cons_of_mem _ cm_29) dX0_sort_4 ?_
      refine lv_icmp_ge (tgt := 68) cx.1 cx.2.1 dX0_sort_7 (by decide) (fun c7 => ?_) (fun c7 => ?_)
      · have h := md_ip c7 h
        obtain rfl := Option.some.inj h
        exact K _ hj _ _ _ hw (lv_sub hl [] rfl)
      · have h := md_in c7 h
        refine lv_aload_n cx.1 cx.2.1 dX0_sort_10 rfl (lv_at hl 0 rfl) ?_
        refine cd_gA (o := 0) (k := 4) (f := 4) hj cx hw hic0 rfl ⟨by decide, rfl, by decide, rfl⟩ rfl (by decide) (List.mem_cons_of_mem _ cm_30) dX0_sort_11 ?_
        refine lv_iload_n cx.1 cx.2.1 dX0_sort_14 rfl (lv_at hl 1 rfl) ?_
        obtain ⟨v1, e_v1, h⟩ := md_ob h
        refine cd_lI (f := 4) hj cx hw (by decide) (by decide) rfl e_v1 dX0_sort_15 ?_
        refine lv_istore_n (lv' := [(2, .int v1), (0, .ref (ad 0 0)), (1, .int l1)]) cx.1 cx.2.1 dX0_sort_16 rfl hl (by decide) rfl (fun ls hl => ?_)
        refine lv_iload_n cx.1 cx.2.1 dX0_sort_17 rfl (lv_at hl 2 rfl) ?_
        refine lv_istore_n (lv' := [(3, .int l1), (2, .int v1), (0, .ref (ad 0 0)), (1, .int l1)]) cx.1 cx.2.1 dX0_sort_18 rfl hl (by decide) rfl (fun ls hl => ?_)
        have L19 : ∀ (j : Nat) (ca : Nat → Nat) (hj : cd_inj ad ca) (σ : cd_S) (l1 : Int32) (l2 : Int32) (l3 : Int32) (q : (cd_S × Int32)) (H : Heap) (locs : List Loc) (ls : Array Slot), f_X0_sort_L19 n l1 l2 j σ l3 = some q → hp_w D vwCl (hp_Tl cA) E (hp_A (cd_pic cA ad ca0 σ0) sz) ss H locs (cd_pic cA ad ca σ) → lv_has ls 4 [(0, .ref (ad 0 0)), (1, .int l1), (2, .int l2), (3, .int l3)] → (∀ (ca : Nat → Nat) (hj : cd_inj ad ca) (H : Heap) (locs : List Loc) (ls : Array Slot), hp_w D vwCl (hp_Tl cA) E (hp_A (cd_pic cA ad ca0 σ0) sz) ss H locs (cd_pic cA ad ca q.1) → lv_has ls 4 [(0, .ref (ad 0 0)), (1, .int l1), (2, .int l2), (3, .int q.2)] → W pp l ee ({ frames := 0, cells := 0, slots := 0, locals := 0 }) ss mm [.ref (ad 0 0)].toArray bb mt cd H locs 0 0 (MQ bb (hp_Qv D vwCl (hp_Tl cA) sz (cd_pic cA ad ca0 σ0) (fun u => ∃ ca1, cd_inj ad ca1 ∧ u = cd_pic cA ad ca1 p.2)) [.ref (ad 0 0)].toArray ss 0 0 (hp_A (cd_pic cA ad ca0 σ0) sz)) (F0 mm 55 ls [])) → W pp l ee ({ frames := 0, cells := 0, slots := 0, locals := 0 }) ss mm [.ref (ad 0 0)].toArray bb mt cd H locs 0 0 (MQ bb (hp_Qv D vwCl (hp_Tl cA) sz (cd_pic cA ad ca0 σ0) (fun u => ∃ ca1, cd_inj ad ca1 ∧ u = cd_pic cA ad ca1 p.2)) [.ref (ad 0 0)].toArray ss 0 0 (hp_A (cd_pic cA ad ca0 σ0) sz)) (F0 mm 19 ls []) := by
          intro j
          induction j with
          | zero => intro ca hj σ l1 l2 l3 q H locs ls h; exact nomatch h
          | succ j ih =>
            intro ca hj σ l1 l2 l3 q H locs ls h hw hl K
            unfold f_X0_sort_L19 at h
            refine lv_iload_n cx.1 cx.2.1 dX0_sort_19 rfl (lv_at hl 3 rfl) ?_
            refine lv_if_le (tgt := 55) cx.1 cx.2.1 dX0_sort_20 (by decide) (fun c20 => ?_) (fun c20 => ?_)
            · have h := md_ip c20 h
              obtain rfl := Option.some.inj h
              exact K _ hj _ _ _ hw (lv_sub hl [0, 1, 2, 3] rfl)
            · have h := md_in c20 h
              refine lv_aload_n cx.1 cx.2.1 dX0_sort_23 rfl (lv_at hl 0 rfl) ?_
              refine cd_gA (o := 0) (k := 4) (f := 4) hj cx hw hic0 rfl ⟨by decide, rfl, by decide, rfl⟩ rfl (by decide) (List.mem_cons_of_mem _ cm_30) dX0_sort_24 ?_
              refine lv_iload_n cx.1 cx.2.1 dX0_sort_27 rfl (lv_at hl 3 rfl) ?_
              refine lv_iconst (v := 1) cx.1 cx.2.1 dX0_sort_28 (by decide) ?_
              refine lv_isub cx.1 cx.2.1 dX0_sort_29 ?_
              obtain ⟨v2, e_v2, h⟩ := md_ob h
              refine cd_lI (f := 4) hj cx hw (by decide) (by decide) rfl e_v2 dX0_sort_30 ?_
              refine lv_iload_n cx.1 cx.2.1 dX0_sort_31 rfl (lv_at hl 2 rfl) ?_
              refine lv_icmp_le (tgt := 55) cx.1 cx.2.1 dX0_sort_32 (by decide) (fun c32 => ?_) (fun c32 => ?_)
              · have h := md_ip c32 h
                obtain rfl := Option.some.inj h
                exact K _ hj _ _ _ hw (lv_sub hl [0, 1, 2, 3] rfl)
              · have h := md_in c32 h
                refine lv_aload_n cx.1 cx.2.1 dX0_sort_35 rfl (lv_at hl 0 rfl) ?_
                refine cd_gA (o := 0) (k := 4) (f := 4) hj cx hw hic0 rfl ⟨by decide, rfl, by decide, rfl⟩ rfl (by decide) (List.mem_cons_of_mem _ cm_30) dX0_sort_36 ?_
                refine lv_iload_n cx.1 cx.2.1 dX0_sort_39 rfl (lv_at hl 3 rfl) ?_
                refine lv_aload_n cx.1 cx.2.1 dX0_sort_40 rfl (lv_at hl 0 rfl) ?_
                refine cd_gA (o := 0) (k := 4) (f := 4) hj cx hw hic0 rfl ⟨by decide, rfl, by decide, rfl⟩ rfl (by decide) (List.mem_cons_of_mem _ cm_30) dX0_sort_41 ?_
                refine lv_iload_n cx.1 cx.2.1 dX0_sort_44 rfl (lv_at hl 3 rfl) ?_
                refine lv_iconst (v := 1) cx.1 cx.2.1 dX0_sort_45 (by decide) ?_
                refine lv_isub cx.1 cx.2.1 dX0_sort_46 ?_
                obtain ⟨v3, e_v3, h⟩ := md_ob h
                refine cd_lI (f := 4) hj cx hw (by decide) (by decide) rfl e_v3 dX0_sort_47 ?_
                obtain ⟨σ4, e_σ4, h⟩ := md_ob h
                refine cd_sI (f := 4) hj cx hw (by decide) (by decide) rfl e_σ4 dX0_sort_48 (fun H locs hw => ?_)
                refine lv_iinc (v := (l3 + (-1))) (lv' := [(3, .int (l3 + (-1))), (0, .ref (ad 0 0)), (1, .int l1), (2, .int l2)]) cx.1 cx.2.1 dX0_sort_49 hl (k := 3) rfl rfl (by decide) rfl (fun ls hl => ?_)
                refine lv_goto (tgt := 19) cx.1 cx.2.1 dX0_sort_52 (by decide) ?_
                exact ih _ hj σ4 l1 l2 ((l3 + (-1))) q _ _ _ h hw (lv_sub hl [1, 2, 3, 0] rfl) K
        obtain ⟨q5, e_q5, h⟩ := md_ob h
        refine L19 n _ hj σ l1 v1 l1 q5 _ _ _ e_q5 hw (lv_sub hl [2, 3, 1, 0] rfl) (fun ca hj H locs ls hw hl => ?_)
        refine lv_aload_n cx.1 cx.2.1 dX0_sort_55 rfl (lv_at hl 0 rfl) ?_
        refine cd_gA (o := 0) (k := 4) (f := 4) hj cx hw hic0 rfl ⟨by decide, rfl, by decide, rfl⟩ rfl (by decide) (List.mem_cons_of_mem _ cm_30) dX0_sort_56 ?_
        refine lv_iload_n cx.1 cx.2.1 dX0_sort_59 rfl (lv_at hl 3 rfl) ?_
        refine lv_iload_n cx.1 cx.2.1 dX0_sort_60 rfl (lv_at hl 2 rfl) ?_
        obtain ⟨σ6, e_σ6, h⟩ := md_ob h
        refine cd_sI (f := 4) hj cx hw (by decide) (by decide) rfl e_σ6 dX0_sort_61 (fun H locs hw => ?_)
        refine lv_iinc (v := (l1 + 1)) (lv' := [(1, .int (l1 + 1)), (0, .ref (ad 0 0)), (2, .int v1), (3, .int q5.2)]) cx.1 cx.2.1 dX0_sort_62 hl (k := 1) rfl rfl (by decide) rfl (fun ls hl => ?_)
        refine lv_goto (tgt := 2) cx.1 cx.2.1 dX0_sort_65 (by decide) ?_
        exact ih _ hj σ6 ((l1 + 1)) q _ _ _ h hw (lv_sub hl [1, 0] rfl) K
  obtain ⟨q7, e_q7, h⟩ := md_ob h
  refine L2 n _ hj σ0 1 q7 _ _ _ e_q7 hw (lv_sub hl [1, 0] rfl) (fun ca hj H locs ls hw hl => ?_)
  exact hp_vret cx hw ((cd_ret hj h).2) dX0_sort_68
set_option maxHeartbeats 4000000 in
set_option maxRecDepth 100000 in
theorem kc_X0_settle (l : Launch) (D : va_G) (cA : Nat → ClassId) (E : hp_N) (sz : Nat) (ad : Nat → Nat → Nat) (ca0 : Nat → Nat) (hj : cd_inj ad ca0) (oq sgq sgv : Nat) (hE : cd_E E oq sgq sgv) (n : Nat) (σ0 : cd_S) (b0 : cd_B) (a1 : Int32) (p : (Int32 × cd_S × cd_B)) (h : f_X0_settle n σ0 b0 a1 = some p) : (p.2.2.1 ≤ b0.1 ∧ p.2.2.2 ≤ b0.2) ∧ Met l yX0_settle (Cond.code yX0_settle cX0_settle 5 (some .int) :: v_CLS) ({ frames := 5, cells := b0.1 - p.2.2.1, slots := b0.2 - p.2.2.2, locals := 134 }) (hp_Pc D vwCl (hp_Tl cA) E sz (cd_pic cA ad ca0 σ0) [.ref (ad 0 0), .int a1]) (hp_Qi D vwCl (hp_Tl cA) sz (cd_pic cA ad ca0 σ0) (fun r u => r = p.1 ∧ ∃ ca1, cd_inj ad ca1 ∧ u = cd_pic cA ad ca1 p.2.1)) (b0.1 - p.2.2.1) (b0.2 - p.2.2.2) (hp_A (cd_pic cA ad ca0 σ0) sz) := by
  obtain ⟨hm0, hn0, h⟩ := cd_cks h
  have hM0 : p.2.2.1 ≤ b0.1 ∧ p.2.2.2 ≤ b0.2 := ⟨hm0, hn0⟩
  refine ⟨hM0, ?_⟩
  refine hp_ofW (cc := cX0_settle) (maxL := 5) (ret := (some .int)) (by decide) rfl (Nat.le_of_ble_eq_true rfl) ?_
  intro pp ee ss mm bb mt cd ls cx hsz hw hl
  have hl : lv_has ls 5 [(0, .ref (ad 0 0)), (1, .int a1)] := hl
  refine W.widen (k := b0.1 - b0.1) (n := b0.2 - b0.2) (Nat.zero_le _) (Nat.zero_le _) ?_
  have J62 : ∀ (ca : Nat → Nat) (hj : cd_inj ad ca) (σ : cd_S) (b : cd_B) (l2 : Int32) (t0 : Int32) (H : Heap) (locs : List Loc) (ls : Array Slot), b.1 ≤ b0.1 → b.2 ≤ b0.2 → p.2.2.1 ≤ b.1 → p.2.2.2 ≤ b.2 → f_X0_settle_J62 n σ b l2 t0 = some p → hp_w D vwCl (hp_Tl cA) E (hp_A (cd_pic cA ad ca0 σ0) sz) ss H locs (cd_pic cA ad ca σ) → lv_has ls 5 [(0, .ref (ad 0 0)), (2, .int l2)] → W pp l ee ({ frames := 5, cells := b0.1 - p.2.2.1, slots := b0.2 - p.2.2.2, locals := 134 }) ss mm [.ref (ad 0 0), .int a1].toArray bb mt cd H locs (b0.1 - b.1) (b0.2 - b.2) (MQ bb (hp_Qi D vwCl (hp_Tl cA) sz (cd_pic cA ad ca0 σ0) (fun r u => r = p.1 ∧ ∃ ca1, cd_inj ad ca1 ∧ u = cd_pic cA ad ca1 p.2.1)) [.ref (ad 0 0), .int a1].toArray ss (b0.1 - p.2.2.1) (b0.2 - p.2.2.2) (hp_A (cd_pic cA ad ca0 σ0) sz)) (F0 mm 62 ls [.int t0]) := by
    intro ca hj σ b l2 t0 H locs ls hb1 hb2 hf1 hf2 h hw hl
    refine lv_istore_n (lv' := [(3, .int t0), (0, .ref (ad 0 0)), (2, .int l2)]) cx.1 cx.2.1 dX0_settle_62 rfl hl (by decide) rfl (fun ls hl => ?_)
    refine lv_iconst (v := 0) cx.1 cx.2.1 dX0_settle_63 (by decide) ?_
    refine lv_istore (lv' := [(4, .int 0), (3, .int t0), (0, .ref (ad 0 0)), (2, .int l2)]) cx.1 cx.2.1 dX0_settle_64 hl (by decide) rfl (fun ls hl => ?_)
    have L66 : ∀ (j : Nat) (ca : Nat → Nat) (hj : cd_inj ad ca) (σ : cd_S) (b : cd_B) (l2 : Int32) (l3 : Int32) (l4 : Int32) (q : ((Int32 × cd_S × cd_B) ⊕ (cd_S × cd_B × Int32 × Int32))) (H : Heap) (locs : List Loc) (ls : Array Slot), b.1 ≤ b0.1 → b.2 ≤ b0.2 → p.2.2.1 ≤ b.1 → p.2.2.2 ≤ b.2 → p.2.2.1 ≤ (Sum.elim (fun (q : (Int32 × cd_S × cd_B)) => q.2.2) (fun (q : cd_S × cd_B × Int32 × Int32) => q.2.1) q).1 → p.2.2.2 ≤ (Sum.elim (fun (q : (Int32 × cd_S × cd_B)) => q.2.2) (fun (q : cd_S × cd_B × Int32 × Int32) => q.2.1) q).2 → f_X0_settle_L66 n l2 j σ b l3 l4 = some q → hp_w D vwCl (hp_Tl cA) E (hp_A (cd_pic cA ad ca0 σ0) sz) ss H locs (cd_pic cA ad ca σ) → lv_has ls 5 [(0, .ref (ad 0 0)), (2, .int l2), (3, .int l3), (4, .int l4)] → (∀ t, q = Sum.inr t → (∀ (ca : Nat → Nat) (hj : cd_inj ad ca) (H : Heap) (locs : List Loc) (ls : Array Slot), t.2.1.1 ≤ b0.1 → t.2.1.2 ≤ b0.2 → hp_w D vwCl (hp_Tl cA) E (hp_A (cd_pic cA ad ca0 σ0) sz) ss H locs (cd_pic cA ad ca t.1) → lv_has ls 5 [(0, .ref (ad 0 0)), (2, .int l2)] → W pp l ee ({ frames := 5, cells := b0.1 - p.2.2.1, slots := b0.2 - p.2.2.2, locals := 134 }) ss mm [.ref (ad 0 0), .int a1].toArray bb mt cd H locs (b0.1 - t.2.1.1) (b0.2 - t.2.1.2) (MQ bb (hp_Qi D vwCl (hp_Tl cA) sz (cd_pic cA ad ca0 σ0) (fun r u => r = p.1 ∧ ∃ ca1, cd_inj ad ca1 ∧ u = cd_pic cA ad ca1 p.2.1)) [.ref (ad 0 0), .int a1].toArray ss (b0.1 - p.2.2.1) (b0.2 - p.2.2.2) (hp_A (cd_pic cA ad ca0 σ0) sz)) (F0 mm 104 ls []))) → (∀ r, q = Sum.inl r → r = p) → W pp l ee ({ frames := 5, cells := b0.1 - p.2.2.1, slots := b0.2 - p.2.2.2, locals := 134 }) ss mm [.ref (ad 0 0), .int a1].toArray bb mt cd H locs (b0.1 - b.1) (b0.2 - b.2) (MQ bb (hp_Qi D vwCl (hp_Tl cA) sz (cd_pic cA ad ca0 σ0) (fun r u => r = p.1 ∧ ∃ ca1, cd_inj ad ca1 ∧ u = cd_pic cA ad ca1 p.2.1)) [.ref (ad 0 0), .int a1].toArray ss (b0.1 - p.2.2.1) (b0.2 - p.2.2.2) (hp_A (cd_pic cA ad ca0 σ0) sz)) (F0 mm 66 ls []) := by
      intro j
      induction j with
      | zero => intro ca hj σ b l2 l3 l4 q H locs ls hb1 hb2 hf1 hf2 hq1 hq2 h; exact nomatch h
      | succ j ih =>
        intro ca hj σ b l2 l3 l4 q H locs ls hb1 hb2 hf1 hf2 hq1 hq2 h hw hl K KR
        unfold f_X0_settle_L66 at h
        refine lv_iload cx.1 cx.2.1 dX0_settle_66 (lv_at hl 3 rfl) ?_
        refine lv_sipush (v := 4000) cx.1 cx.2.1 dX0_settle_68 (by decide) ?_
        refine lv_icmp_ge (tgt := 104) cx.1 cx.2.1 dX0_settle_71 (by decide) (fun c71 => ?_) (fun c71 => ?_)
        · have h := md_ip c71 h
          exact K _ (Option.some.inj h).symm _ hj _ _ _ (by (try dsimp only); omega) (by (try dsimp only); omega) hw (lv_sub hl [0, 1] rfl)
        · have h := md_in c71 h
          refine lv_iload_n cx.1 cx.2.1 dX0_settle_74 rfl (lv_at hl 2 rfl) ?_
          refine lv_iconst (v := (-1)) cx.1 cx.2.1 dX0_settle_75 (by decide) ?_
          refine lv_icmp_eq (tgt := 104) cx.1 cx.2.1 dX0_settle_76 (by decide) (fun c76 => ?_) (fun c76 => ?_)
          · have h := md_ip c76 h
            exact K _ (Option.some.inj h).symm _ hj _ _ _ (by (try dsimp only); omega) (by (try dsimp only); omega) hw (lv_sub hl [0, 1] rfl)
          · have h := md_in c76 h
            refine lv_aload_n cx.1 cx.2.1 dX0_settle_79 rfl (lv_at hl 0 rfl) ?_
            refine lv_iload_n cx.1 cx.2.1 dX0_settle_80 rfl (lv_at hl 2 rfl) ?_
            obtain ⟨p1, e_p1, h⟩ := md_ob h
            refine hp_callVi (As := [.int l3]) (rest := []) cx hw (kc_X0_isDraft l D cA E _ ad _ hj oq sgq sgv hE n σ l3 p1 e_p1) (cwV 1 cx.2.2.2.2.2.1 (cd_giV cm_59 cm_60 cm_61 cm_23 cm_62) rfl rfl rfl hdc_X0_isDraft ⟨Nat.le_of_ble_eq_true rfl, Nat.le_of_ble_eq_true rfl⟩) (cd_atO hj (by decide) (by decide)) rfl rfl hl.1 rfl (Nat.le_of_ble_eq_true rfl) dX0_settle_81 ⟨by (try dsimp only); omega, by (try dsimp only); omega⟩ (fun r u H locs hp hw => ?_)
            obtain ⟨rfl, ca, hj, rfl⟩ := hp
            refine lv_if_eq (tgt := 89) cx.1 cx.2.1 dX0_settle_84 (by decide) (fun c84 => ?_) (fun c84 => ?_)
            · have h := md_ip c84 h
              refine lv_aload_n cx.1 cx.2.1 dX0_settle_89 rfl (lv_at hl 0 rfl) ?_
              refine cd_gO (o2 := 6) (e2 := 4) (o := 0) (k := 2) (f := 2) hj cx hw hic0 rfl ⟨by decide, rfl, by decide, rfl⟩ rfl (by decide) ⟨rfl, rfl⟩ (List.mem_cons_of_mem _ cm_8) dX0_settle_90 ?_
              refine lv_iload_n cx.1 cx.2.1 dX0_settle_93 rfl (lv_at hl 2 rfl) ?_
              obtain ⟨p2, e_p2, h⟩ := md_ob h
              refine hp_callVi (As := [.int l3]) (rest := []) cx hw (kc_X6_at l D cA E _ ad _ hj oq sgq sgv hE n p1.2 4 l3 (by decide) p2 e_p2) (cwV 1 cx.2.2.2.2.2.1 (cd_giV cm_16 cm_17 cm_18 cm_5 cm_19) rfl rfl rfl hdc_X6_at ⟨Nat.le_of_ble_eq_true rfl, Nat.le_of_ble_eq_true rfl⟩) (cd_atO hj (by decide) (by decide)) rfl rfl hl.1 rfl (Nat.le_of_ble_eq_true rfl) dX0_settle_94 ⟨by (try dsimp only); omega, by (try dsimp only); omega⟩ (fun r u H locs hp hw => ?_)
              obtain ⟨rfl, ca, hj, rfl⟩ := hp
              refine lv_istore_n (lv' := [(3, .int p2.1), (0, .ref (ad 0 0)), (2, .int l2), (4, .int l4)]) cx.1 cx.2.1 dX0_settle_97 rfl hl (by decide) rfl (fun ls hl => ?_)
              refine lv_iinc (v := (l4 + 1)) (lv' := [(4, .int (l4 + 1)), (3, .int p2.1), (0, .ref (ad 0 0)), (2, .int l2)]) cx.1 cx.2.1 dX0_settle_98 hl (k := 3) rfl rfl (by decide) rfl (fun ls hl => ?_)
              refine lv_goto (tgt := 66) cx.1 cx.2.1 dX0_settle_101 (by decide) ?_
              exact ih _ hj p2.2 b l2 (p2.1) ((l4 + 1)) q _ _ _ (by omega) (by omega) (by omega) (by omega) hq1 hq2 h hw (lv_sub hl [2, 3, 1, 0] rfl) K KR
            · have h := md_in c84 h
              refine lv_iload_n cx.1 cx.2.1 dX0_settle_87 rfl (lv_at hl 2 rfl) ?_
              exact hp_iret cx hw (cd_retb hj (congrArg some (KR _ (Option.some.inj h).symm))) dX0_settle_88 (cd_le1 (congrArg some (KR _ (Option.some.inj h).symm))) (cd_le2 (congrArg some (KR _ (Option.some.inj h).symm)))
    obtain ⟨q3, e_q3, h⟩ := md_ob h
    obtain ⟨hm4, hn4, h⟩ := cd_cks h
    have hM4 : p.2.2.1 ≤ (Sum.elim (fun (q : (Int32 × cd_S × cd_B)) => q.2.2) (fun (q : cd_S × cd_B × Int32 × Int32) => q.2.1) q3).1 ∧ p.2.2.2 ≤ (Sum.elim (fun (q : (Int32 × cd_S × cd_B)) => q.2.2) (fun (q : cd_S × cd_B × Int32 × Int32) => q.2.1) q3).2 := ⟨hm4, hn4⟩
    refine L66 n _ hj σ b l2 t0 0 q3 _ _ _ (by omega) (by omega) (by omega) (by omega) hM4.1 hM4.2 e_q3 hw (lv_sub hl [2, 3, 1, 0] rfl) (fun t3 hq3 ca hj H locs ls hb1 hb2 hw hl => ?_) (fun r hr => by subst hr; exact Option.some.inj h)
    subst hq3
    have h := md_inr h
    have hS4 : p.2.2.1 ≤ t3.2.1.1 ∧ p.2.2.2 ≤ t3.2.1.2 := hM4
    refine lv_aload_n cx.1 cx.2.1 dX0_settle_104 rfl (lv_at hl 0 rfl) ?_
    refine lv_iload_n cx.1 cx.2.1 dX0_settle_105 rfl (lv_at hl 1 rfl) ?_
    obtain ⟨p5, e_p5, h⟩ := md_ob h
    obtain ⟨hm6, hn6, h⟩ := cd_cks h
    have hM6 : p.2.2.1 ≤ p5.2.2.1 ∧ p.2.2.2 ≤ p5.2.2.2 := ⟨hm6, hn6⟩
    have hle5 := (kc_X0_keep l D cA E sz ad _ hj oq sgq sgv hE n t3.1 (t3.2.1) l2 p5 e_p5).1
    refine hp_callVi (As := [.int l2]) (rest := []) cx hw ((kc_X0_keep l D cA E _ ad _ hj oq sgq sgv hE n t3.1 (t3.2.1) l2 p5 e_p5).2) (cwV 1 cx.2.2.2.2.2.1 (cd_giV cm_63 cm_64 cm_65 cm_23 cm_66) rfl rfl rfl hdc_X0_keep ⟨Nat.le_of_ble_eq_true rfl, Nat.le_of_ble_eq_true rfl⟩) (cd_atO hj (by decide) (by decide)) rfl rfl hl.1 rfl (Nat.le_of_ble_eq_true rfl) dX0_settle_106 ⟨by (try dsimp only); omega, by (try dsimp only); omega⟩ (fun r u H locs hp hw => ?_)
    obtain ⟨rfl, ca, hj, rfl⟩ := hp
    refine W.widen (k := b0.1 - p5.2.2.1) (n := b0.2 - p5.2.2.2) (by omega) (by omega) ?_
    exact hp_iret cx hw (cd_retb hj h) dX0_settle_109 (cd_le1 h) (cd_le2 h)
  have J61 : ∀ (ca : Nat → Nat) (hj : cd_inj ad ca) (σ : cd_S) (b : cd_B) (l2 : Int32) (H : Heap) (locs : List Loc) (ls : Array Slot), b.1 ≤ b0.1 → b.2 ≤ b0.2 → p.2.2.1 ≤ b.1 → p.2.2.2 ≤ b.2 → f_X0_settle_J61 n σ b l2 = some p → hp_w D vwCl (hp_Tl cA) E (hp_A (cd_pic cA ad ca0 σ0) sz) ss H locs (cd_pic cA ad ca σ) → lv_has ls 5 [(0, .ref (ad 0 0)), (2, .int l2)] → W pp l ee ({ frames := 5, cells := b0.1 - p.2.2.1, slots := b0.2 - p.2.2.2, locals := 134 }) ss mm [.ref (ad 0 0), .int a1].toArray bb mt cd H locs (b0.1 - b.1) (b0.2 - b.2) (MQ bb (hp_Qi D vwCl (hp_Tl cA) sz (cd_pic cA ad ca0 σ0) (fun r u => r = p.1 ∧ ∃ ca1, cd_inj ad ca1 ∧ u = cd_pic cA ad ca1 p.2.1)) [.ref (ad 0 0), .int a1].toArray ss (b0.1 - p.2.2.1) (b0.2 - p.2.2.2) (hp_A (cd_pic cA ad ca0 σ0) sz)) (F0 mm 61 ls []) := by
    intro ca hj σ b l2 H locs ls hb1 hb2 hf1 hf2 h hw hl
    refine lv_iconst (v := (-1)) cx.1 cx.2.1 dX0_settle_61 (by decide) ?_
    exact J62 _ hj σ b l2 ((-1)) _ _ _ (by omega) (by omega) (by omega) (by omega) h hw (lv_sub hl [0, 1] rfl)
  refine lv_iconst (v := 0) cx.1 cx.2.1 dX0_settle_0 (by decide) ?_
  refine lv_istore_n (lv' := [(2, .int 0), (0, .ref (ad 0 0)), (1, .int a1)]) cx.1 cx.2.1 dX0_settle_1 rfl hl (by decide) rfl (fun ls hl => ?_)
  have L2 : ∀ (j : Nat) (ca : Nat → Nat) (hj : cd_inj ad ca) (σ : cd_S) (b : cd_B) (l1 : Int32) (l2 : Int32) (q : (cd_S × cd_B × Int32)) (H : Heap) (locs : List Loc) (ls : Array Slot), b.1 ≤ b0.1 → b.2 ≤ b0.2 → p.2.2.1 ≤ b.1 → p.2.2.2 ≤ b.2 → p.2.2.1 ≤ q.2.1.1 → p.2.2.2 ≤ q.2.1.2 → f_X0_settle_L2 n l1 j σ b l2 = some q → hp_w D vwCl (hp_Tl cA) E (hp_A (cd_pic cA ad ca0 σ0) sz) ss H locs (cd_pic cA ad ca σ) → lv_has ls 5 [(0, .ref (ad 0 0)), (1, .int l1), (2, .int l2)] → (∀ (ca : Nat → Nat) (hj : cd_inj ad ca) (H : Heap) (locs : List Loc) (ls : Array Slot), q.2.1.1 ≤ b0.1 → q.2.1.2 ≤ b0.2 → hp_w D vwCl (hp_Tl cA) E (hp_A (cd_pic cA ad ca0 σ0) sz) ss H locs (cd_pic cA ad ca q.1) → lv_has ls 5 [(0, .ref (ad 0 0))] → W pp l ee ({ frames := 5, cells := b0.1 - p.2.2.1, slots := b0.2 - p.2.2.2, locals := 134 }) ss mm [.ref (ad 0 0), .int a1].toArray bb mt cd H locs (b0.1 - q.2.1.1) (b0.2 - q.2.1.2) (MQ bb (hp_Qi D vwCl (hp_Tl cA) sz (cd_pic cA ad ca0 σ0) (fun r u => r = p.1 ∧ ∃ ca1, cd_inj ad ca1 ∧ u = cd_pic cA ad ca1 p.2.1)) [.ref (ad 0 0), .int a1].toArray ss (b0.1 - p.2.2.1) (b0.2 - p.2.2.2) (hp_A (cd_pic cA ad ca0 σ0) sz)) (F0 mm 28 ls [])) → W pp l ee ({ frames := 5, cells := b0.1 - p.2.2.1, slots := b0.2 - p.2.2.2, locals := 134 }) ss mm [.ref (ad 0 0), .int a1].toArray bb mt cd H locs (b0.1 - b.1) (b0.2 - b.2) (MQ bb (hp_Qi D vwCl (hp_Tl cA) sz (cd_pic cA ad ca0 σ0) (fun r u => r = p.1 ∧ ∃ ca1, cd_inj ad ca1 ∧ u = cd_pic cA ad ca1 p.2.1)) [.ref (ad 0 0), .int a1].toArray ss (b0.1 - p.2.2.1) (b0.2 - p.2.2.2) (hp_A (cd_pic cA ad ca0 σ0) sz)) (F0 mm 2 ls []) := by
    intro j
    induction j with
    | zero => intro ca hj σ b l1 l2 q H locs ls hb1 hb2 hf1 hf2 hq1 hq2 h; exact nomatch h
    | succ j ih =>
      intro ca hj σ b l1 l2 q H locs ls hb1 hb2 hf1 hf2 hq1 hq2 h hw hl K
      unfold f_X0_settle_L2 at h
      refine lv_iload_n cx.1 cx.2.1 dX0_settle_2 rfl (lv_at hl 2 rfl) ?_
      refine lv_aload_n cx.1 cx.2.1 dX0_settle_3 rfl (lv_at hl 0 rfl) ?_
      refine cd_gI (o := 0) (k := 5) (f := 5) hj cx hw hic0 rfl ⟨by decide, rfl, by decide, rfl⟩ rfl (by decide) (List.mem_cons_of_mem _ cm_29) dX0_settle_4 ?_
      refine lv_icmp_ge (tgt := 28) cx.1 cx.2.1 dX0_settle_7 (by decide) (fun c7 => ?_) (fun c7 => ?_)
      · have h := md_ip c7 h
        obtain rfl := Option.some.inj h
        exact K _ hj _ _ _ (by (try dsimp only); omega) (by (try dsimp only); omega) hw (lv_sub hl [0] rfl)
      · have h := md_in c7 h
        refine lv_aload_n cx.1 cx.2.1 dX0_settle_10 rfl (lv_at hl 0 rfl) ?_
        refine cd_gA (o := 0) (k := 4) (f := 4) hj cx hw hic0 rfl ⟨by decide, rfl, by decide, rfl⟩ rfl (by decide) (List.mem_cons_of_mem _ cm_30) dX0_settle_11 ?_
        refine lv_iload_n cx.1 cx.2.1 dX0_settle_14 rfl (lv_at hl 2 rfl) ?_
        refine lv_dup2_11 cx.1 cx.2.1 dX0_settle_15 rfl rfl ?_
        obtain ⟨v7, e_v7, h⟩ := md_ob h
        refine cd_lI (f := 4) hj cx hw (by decide) (by decide) rfl e_v7 dX0_settle_16 ?_
        refine lv_iconst (v := 1) cx.1 cx.2.1 dX0_settle_17 (by decide) ?_
        refine lv_iload_n cx.1 cx.2.1 dX0_settle_18 rfl (lv_at hl 1 rfl) ?_
        refine lv_ishl cx.1 cx.2.1 dX0_settle_19 ?_
        refine lv_ior cx.1 cx.2.1 dX0_settle_20 ?_
        obtain ⟨σ8, e_σ8, h⟩ := md_ob h
        refine cd_sI (f := 4) hj cx hw (by decide) (by decide) rfl e_σ8 dX0_settle_21 (fun H locs hw => ?_)
        refine lv_iinc (v := (l2 + 1)) (lv' := [(2, .int (l2 + 1)), (0, .ref (ad 0 0)), (1, .int l1)]) cx.1 cx.2.1 dX0_settle_22 hl (k := 2) rfl rfl (by decide) rfl (fun ls hl => ?_)
        refine lv_goto (tgt := 2) cx.1 cx.2.1 dX0_settle_25 (by decide) ?_
        exact ih _ hj σ8 b l1 ((l2 + 1)) q _ _ _ (by omega) (by omega) (by omega) (by omega) hq1 hq2 h hw (lv_sub hl [1, 2, 0] rfl) K
  obtain ⟨q9, e_q9, h⟩ := md_ob h
  obtain ⟨hm10, hn10, h⟩ := cd_cks h
  have hM10 : p.2.2.1 ≤ q9.2.1.1 ∧ p.2.2.2 ≤ q9.2.1.2 := ⟨hm10, hn10⟩
  refine L2 n _ hj σ0 b0 a1 0 q9 _ _ _ (by omega) (by omega) (by omega) (by omega) hM10.1 hM10.2 e_q9 hw (lv_sub hl [1, 2, 0] rfl) (fun ca hj H locs ls hb1 hb2 hw hl => ?_)
  refine lv_aload_n cx.1 cx.2.1 dX0_settle_28 rfl (lv_at hl 0 rfl) ?_
  obtain ⟨p11, e_p11, h⟩ := md_ob h
  refine hp_callVv (As := []) (rest := []) cx hw (kc_X0_reduce l D cA E _ ad _ hj oq sgq sgv hE n q9.1  p11 e_p11) (cwV 0 cx.2.2.2.2.2.1 (cd_giV cm_47 cm_48 cm_49 cm_23 cm_50) rfl rfl rfl hdc_X0_reduce ⟨Nat.le_of_ble_eq_true rfl, Nat.le_of_ble_eq_true rfl⟩) (cd_atO hj (by decide) (by decide)) rfl rfl hl.1 rfl (Nat.le_of_ble_eq_true rfl) dX0_settle_29 ⟨by (try dsimp only); omega, by (try dsimp only); omega⟩ (fun u H locs hp hw => ?_)
  obtain ⟨ca, hj, rfl⟩ := hp
  refine lv_aload_n cx.1 cx.2.1 dX0_settle_32 rfl (lv_at hl 0 rfl) ?_
  obtain ⟨p12, e_p12, h⟩ := md_ob h
  refine hp_callVv (As := []) (rest := []) cx hw (kc_X0_sort l D cA E _ ad _ hj oq sgq sgv hE n p11.2  p12 e_p12) (cwV 0 cx.2.2.2.2.2.1 (cd_giV cm_51 cm_52 cm_53 cm_23 cm_54) rfl rfl rfl hdc_X0_sort ⟨Nat.le_of_ble_eq_true rfl, Nat.le_of_ble_eq_true rfl⟩) (cd_atO hj (by decide) (by decide)) rfl rfl hl.1 rfl (Nat.le_of_ble_eq_true rfl) dX0_settle_33 ⟨by (try dsimp only); omega, by (try dsimp only); omega⟩ (fun u H locs hp hw => ?_)
  obtain ⟨ca, hj, rfl⟩ := hp
  refine lv_aload_n cx.1 cx.2.1 dX0_settle_36 rfl (lv_at hl 0 rfl) ?_
  obtain ⟨p13, e_p13, h⟩ := md_ob h
  refine hp_callVi (As := []) (rest := []) cx hw (kc_X0_bucketOf l D cA E _ ad _ hj oq sgq sgv hE n p12.2  p13 e_p13) (cwV 0 cx.2.2.2.2.2.1 (cd_giV cm_55 cm_56 cm_57 cm_23 cm_58) rfl rfl rfl hdc_X0_bucketOf ⟨Nat.le_of_ble_eq_true rfl, Nat.le_of_ble_eq_true rfl⟩) (cd_atO hj (by decide) (by decide)) rfl rfl hl.1 rfl (Nat.le_of_ble_eq_true rfl) dX0_settle_37 ⟨by (try dsimp only); omega, by (try dsimp only); omega⟩ (fun r u H locs hp hw => ?_)
  obtain ⟨rfl, ca, hj, rfl⟩ := hp
  refine lv_istore_n (lv' := [(2, .int p13.1), (0, .ref (ad 0 0))]) cx.1 cx.2.1 dX0_settle_40 rfl hl (by decide) rfl (fun ls hl => ?_)
  refine lv_iload_n cx.1 cx.2.1 dX0_settle_41 rfl (lv_at hl 0 rfl) ?_
  refine lv_if_lt (tgt := 61) cx.1 cx.2.1 dX0_settle_42 (by decide) (fun c42 => ?_) (fun c42 => ?_)
  · have h := md_ip c42 h
    exact J61 _ hj p13.2 (q9.2.1) (p13.1) _ _ _ (by omega) (by omega) (by omega) (by omega) h hw (lv_sub hl [1, 0] rfl)
  · have h := md_in c42 h
    refine lv_iload_n cx.1 cx.2.1 dX0_settle_45 rfl (lv_at hl 0 rfl) ?_
    refine lv_sipush (v := 256) cx.1 cx.2.1 dX0_settle_46 (by decide) ?_
    refine lv_icmp_ge (tgt := 61) cx.1 cx.2.1 dX0_settle_49 (by decide) (fun c49 => ?_) (fun c49 => ?_)
    · have h := md_ip c49 h
      exact J61 _ hj p13.2 (q9.2.1) (p13.1) _ _ _ (by omega) (by omega) (by omega) (by omega) h hw (lv_sub hl [1, 0] rfl)
    · have h := md_in c49 h
      refine lv_aload_n cx.1 cx.2.1 dX0_settle_52 rfl (lv_at hl 1 rfl) ?_
      refine cd_gA (o := 0) (k := 3) (f := 3) hj cx hw hic0 rfl ⟨by decide, rfl, by decide, rfl⟩ rfl (by decide) (List.mem_cons_of_mem _ cm_9) dX0_settle_53 ?_
      refine lv_iload_n cx.1 cx.2.1 dX0_settle_56 rfl (lv_at hl 0 rfl) ?_
      obtain ⟨v14, e_v14, h⟩ := md_ob h
      refine cd_lI (f := 3) hj cx hw (by decide) (by decide) rfl e_v14 dX0_settle_57 ?_
      refine lv_goto (tgt := 62) cx.1 cx.2.1 dX0_settle_58 (by decide) ?_
      exact J62 _ hj p13.2 (q9.2.1) (p13.1) v14 _ _ _ (by omega) (by omega) (by omega) (by omega) h hw (lv_sub hl [1, 0] rfl)
set_option maxHeartbeats 4000000 in
set_option maxRecDepth 100000 in
theorem kc_X1_valueOf (l : Launch) (D : va_G) (cA : Nat → ClassId) (E : hp_N) (sz : Nat) (ad : Nat → Nat → Nat) (ca0 : Nat → Nat) (hj : cd_inj ad ca0) (oq sgq sgv : Nat) (hE : cd_E E oq sgq sgv) (n : Nat) (σ0 : cd_S) (a0 : Int32) (a1 : Int32) (p : (Int64 × cd_S)) (h : f_X1_valueOf n σ0 a0 a1 = some p) : Met l yX1_valueOf (Cond.code yX1_valueOf cX1_valueOf 2 (some .long) :: v_CLS) ({ frames := 0, cells := 0, slots := 0, locals := 0 }) (hp_Pc D vwCl (hp_Tl cA) E sz (cd_pic cA ad ca0 σ0) [.int a0, .int a1]) (hp_Ql D vwCl (hp_Tl cA) sz (cd_pic cA ad ca0 σ0) (fun r u => r = p.1 ∧ ∃ ca1, cd_inj ad ca1 ∧ u = cd_pic cA ad ca1 p.2)) 0 0 (hp_A (cd_pic cA ad ca0 σ0) sz) := by
  refine hp_ofW (cc := cX1_valueOf) (maxL := 2) (ret := (some .long)) (by decide) rfl (Nat.le_of_ble_eq_true rfl) ?_
  intro pp ee ss mm bb mt cd ls cx hsz hw hl
  have hl : lv_has ls 2 [(0, .int a0), (1, .int a1)] := hl
  refine lv_iload_n cx.1 cx.2.1 dX1_valueOf_0 rfl (lv_at hl 0 rfl) ?_
  refine lv_i2l (v := (a0.toInt64)) cx.1 cx.2.1 dX1_valueOf_1 rfl ?_
  refine lv_bipush (v := 32) cx.1 cx.2.1 dX1_valueOf_2 (by decide) ?_
  refine lv_lshl (v := ((a0.toInt64) <<< ((32 : Int32).toInt64 &&& 63))) cx.1 cx.2.1 dX1_valueOf_4 rfl ?_
  refine lv_iload_n cx.1 cx.2.1 dX1_valueOf_5 rfl (lv_at hl 1 rfl) ?_
  refine lv_i2l (v := (a1.toInt64)) cx.1 cx.2.1 dX1_valueOf_6 rfl ?_
  refine lv_ldc2 cx.1 cx.2.1 cx.2.2.2.2.1 (cx.2.2.2.2.2.1 _ (List.mem_cons_of_mem _ cm_67)) dX1_valueOf_7 ?_
  refine lv_land cx.1 cx.2.1 dX1_valueOf_10 ?_
  refine lv_lor cx.1 cx.2.1 dX1_valueOf_11 ?_
  exact hp_lret cx hw (cd_ret hj h) dX1_valueOf_12
set_option maxHeartbeats 4000000 in
set_option maxRecDepth 100000 in
theorem kc_X1_sortOf (l : Launch) (D : va_G) (cA : Nat → ClassId) (E : hp_N) (sz : Nat) (ad : Nat → Nat → Nat) (ca0 : Nat → Nat) (hj : cd_inj ad ca0) (oq sgq sgv : Nat) (hE : cd_E E oq sgq sgv) (n : Nat) (σ0 : cd_S) (a0 : Int64) (p : (Int32 × cd_S)) (h : f_X1_sortOf n σ0 a0 = some p) : Met l yX1_sortOf (Cond.code yX1_sortOf cX1_sortOf 2 (some .int) :: v_CLS) ({ frames := 0, cells := 0, slots := 0, locals := 0 }) (hp_Pc D vwCl (hp_Tl cA) E sz (cd_pic cA ad ca0 σ0) [.long a0]) (hp_Qi D vwCl (hp_Tl cA) sz (cd_pic cA ad ca0 σ0) (fun r u => r = p.1 ∧ ∃ ca1, cd_inj ad ca1 ∧ u = cd_pic cA ad ca1 p.2)) 0 0 (hp_A (cd_pic cA ad ca0 σ0) sz) := by
  refine hp_ofW (cc := cX1_sortOf) (maxL := 2) (ret := (some .int)) (by decide) rfl (Nat.le_of_ble_eq_true rfl) ?_
  intro pp ee ss mm bb mt cd ls cx hsz hw hl
  have hl : lv_has ls 2 [(0, .long a0)] := hl
  refine lv_lload_n cx.1 cx.2.1 dX1_sortOf_0 rfl (lv_at hl 0 rfl) ?_
  refine lv_bipush (v := 32) cx.1 cx.2.1 dX1_sortOf_1 (by decide) ?_
  refine lv_lushr (v := ((a0.toUInt64 >>> ((32 : Int32).toInt64.toUInt64 &&& Int64.toUInt64 63)).toInt64)) cx.1 cx.2.1 dX1_sortOf_3 rfl ?_
  refine lv_l2i (v := (((a0.toUInt64 >>> ((32 : Int32).toInt64.toUInt64 &&& Int64.toUInt64 63)).toInt64).toInt32)) cx.1 cx.2.1 dX1_sortOf_4 rfl ?_
  exact hp_iret cx hw (cd_ret hj h) dX1_sortOf_5
set_option maxHeartbeats 4000000 in
set_option maxRecDepth 100000 in
theorem kc_X1_forget (l : Launch) (D : va_G) (cA : Nat → ClassId) (E : hp_N) (sz : Nat) (ad : Nat → Nat → Nat) (ca0 : Nat → Nat) (hj : cd_inj ad ca0) (oq sgq sgv : Nat) (hE : cd_E E oq sgq sgv) (n : Nat) (σ0 : cd_S) (p : (Int32 × cd_S)) (h : f_X1_forget n σ0 = some p) : Met l yX1_forget (Cond.code yX1_forget cX1_forget 1 none :: v_CLS) ({ frames := 0, cells := 0, slots := 0, locals := 0 }) (hp_Pc D vwCl (hp_Tl cA) E sz (cd_pic cA ad ca0 σ0) [.ref (ad 1 0)]) (hp_Qv D vwCl (hp_Tl cA) sz (cd_pic cA ad ca0 σ0) (fun u => ∃ ca1, cd_inj ad ca1 ∧ u = cd_pic cA ad ca1 p.2)) 0 0 (hp_A (cd_pic cA ad ca0 σ0) sz) := by
  refine hp_ofW (cc := cX1_forget) (maxL := 1) (ret := none) (by decide) rfl (Nat.le_of_ble_eq_true rfl) ?_
  intro pp ee ss mm bb mt cd ls cx hsz hw hl
  have hl : lv_has ls 1 [(0, .ref (ad 1 0))] := hl
  refine lv_aload_n cx.1 cx.2.1 dX1_forget_0 rfl (lv_at hl 0 rfl) ?_
  refine lv_iconst (v := 0) cx.1 cx.2.1 dX1_forget_1 (by decide) ?_
  obtain ⟨σ1, e_σ1, h⟩ := md_ob h
  refine cd_pZ (o := 1) (k := 19) (f := 51) hj cx hw hic1 rfl ⟨by decide, rfl, by decide, rfl⟩ tyX1_ok nmX1 rfl (by decide) rfl (List.mem_cons_of_mem _ cm_68) rfl (by decide) e_σ1 dX1_forget_2 (fun H locs hw => ?_)
  exact hp_vret cx hw ((cd_ret hj h).2) dX1_forget_5
set_option maxHeartbeats 4000000 in
set_option maxRecDepth 100000 in
theorem kc_X1_addNode (l : Launch) (D : va_G) (cA : Nat → ClassId) (E : hp_N) (sz : Nat) (ad : Nat → Nat → Nat) (ca0 : Nat → Nat) (hj : cd_inj ad ca0) (oq sgq sgv : Nat) (hE : cd_E E oq sgq sgv) (n : Nat) (σ0 : cd_S) (b0 : cd_B) (a1 : Nat) (a2 : Int32) (hb_a1 : a1 < 60) (p : (Int32 × cd_S × cd_B)) (h : f_X1_addNode n σ0 b0 a1 a2 = some p) : (p.2.2.1 ≤ b0.1 ∧ p.2.2.2 ≤ b0.2) ∧ Met l yX1_addNode (Cond.code yX1_addNode cX1_addNode 3 (some .int) :: v_CLS) ({ frames := 4, cells := b0.1 - p.2.2.1, slots := b0.2 - p.2.2.2, locals := 111 }) (hp_Pc D vwCl (hp_Tl cA) E sz (cd_pic cA ad ca0 σ0) [.ref (ad 1 0), .ref (ad 9 a1), .int a2]) (hp_Qi D vwCl (hp_Tl cA) sz (cd_pic cA ad ca0 σ0) (fun r u => r = p.1 ∧ ∃ ca1, cd_inj ad ca1 ∧ u = cd_pic cA ad ca1 p.2.1)) (b0.1 - p.2.2.1) (b0.2 - p.2.2.2) (hp_A (cd_pic cA ad ca0 σ0) sz) := by
  obtain ⟨hm0, hn0, h⟩ := cd_cks h
  have hM0 : p.2.2.1 ≤ b0.1 ∧ p.2.2.2 ≤ b0.2 := ⟨hm0, hn0⟩
  refine ⟨hM0, ?_⟩
  refine hp_ofW (cc := cX1_addNode) (maxL := 3) (ret := (some .int)) (by decide) rfl (Nat.le_of_ble_eq_true rfl) ?_
  intro pp ee ss mm bb mt cd ls cx hsz hw hl
  have hl : lv_has ls 3 [(0, .ref (ad 1 0)), (1, .ref (ad 9 a1)), (2, .int a2)] := hl
  refine W.widen (k := b0.1 - b0.1) (n := b0.2 - b0.2) (Nat.zero_le _) (Nat.zero_le _) ?_
  refine lv_aload_n cx.1 cx.2.1 dX1_addNode_0 rfl (lv_at hl 0 rfl) ?_
  refine cd_gO (o2 := 6) (e2 := 5) (o := 1) (k := 4) (f := 36) hj cx hw hic1 rfl ⟨by decide, rfl, by decide, rfl⟩ rfl (by decide) ⟨rfl, rfl⟩ (List.mem_cons_of_mem _ cm_69) dX1_addNode_1 ?_
  refine lv_aload_n cx.1 cx.2.1 dX1_addNode_4 rfl (lv_at hl 1 rfl) ?_
  refine cd_gI (o := 9) (k := 0) (f := 288) hj cx hw hic9 rfl ⟨by decide, rfl, by decide, rfl⟩ rfl (show _ < 60 by omega) (List.mem_cons_of_mem _ cm_70) dX1_addNode_5 ?_
  refine lv_i2l (v := ((cI σ0 288 a1).toInt64)) cx.1 cx.2.1 dX1_addNode_8 rfl ?_
  obtain ⟨p1, e_p1, h⟩ := md_ob h
  obtain ⟨hm2, hn2, h⟩ := cd_cks h
  have hM2 : p.2.2.1 ≤ p1.2.2.1 ∧ p.2.2.2 ≤ p1.2.2.2 := ⟨hm2, hn2⟩
  have hle1 := (kc_X6_add l D cA E sz ad _ hj oq sgq sgv hE n σ0 b0 5 (((cI σ0 288 a1).toInt64)) (by decide) p1 e_p1).1
  refine hp_callVv (As := [.long ((cI σ0 288 a1).toInt64)]) (rest := []) cx hw ((kc_X6_add l D cA E _ ad _ hj oq sgq sgv hE n σ0 b0 5 (((cI σ0 288 a1).toInt64)) (by decide) p1 e_p1).2) (cwV 1 cx.2.2.2.2.2.1 (cd_giV cm_71 cm_40 cm_41 cm_5 cm_42) rfl rfl rfl hdc_X6_add ⟨Nat.le_of_ble_eq_true rfl, Nat.le_of_ble_eq_true rfl⟩) (cd_atO hj (by decide) (by decide)) rfl rfl hl.1 rfl (Nat.le_of_ble_eq_true rfl) dX1_addNode_9 ⟨by (try dsimp only); omega, by (try dsimp only); omega⟩ (fun u H locs hp hw => ?_)
  obtain ⟨ca, hj, rfl⟩ := hp
  refine W.widen (k := b0.1 - p1.2.2.1) (n := b0.2 - p1.2.2.2) (by omega) (by omega) ?_
  refine lv_aload_n cx.1 cx.2.1 dX1_addNode_12 rfl (lv_at hl 0 rfl) ?_
  refine cd_gO (o2 := 6) (e2 := 5) (o := 1) (k := 4) (f := 36) hj cx hw hic1 rfl ⟨by decide, rfl, by decide, rfl⟩ rfl (by decide) ⟨rfl, rfl⟩ (List.mem_cons_of_mem _ cm_69) dX1_addNode_13 ?_
  refine lv_iload_n cx.1 cx.2.1 dX1_addNode_16 rfl (lv_at hl 2 rfl) ?_
  refine lv_i2l (v := (a2.toInt64)) cx.1 cx.2.1 dX1_addNode_17 rfl ?_
  obtain ⟨p3, e_p3, h⟩ := md_ob h
  obtain ⟨hm4, hn4, h⟩ := cd_cks h
  have hM4 : p.2.2.1 ≤ p3.2.2.1 ∧ p.2.2.2 ≤ p3.2.2.2 := ⟨hm4, hn4⟩
  have hle3 := (kc_X6_add l D cA E sz ad _ hj oq sgq sgv hE n p1.2.1 (p1.2.2) 5 ((a2.toInt64)) (by decide) p3 e_p3).1
  refine hp_callVv (As := [.long (a2.toInt64)]) (rest := []) cx hw ((kc_X6_add l D cA E _ ad _ hj oq sgq sgv hE n p1.2.1 (p1.2.2) 5 ((a2.toInt64)) (by decide) p3 e_p3).2) (cwV 1 cx.2.2.2.2.2.1 (cd_giV cm_71 cm_40 cm_41 cm_5 cm_42) rfl rfl rfl hdc_X6_add ⟨Nat.le_of_ble_eq_true rfl, Nat.le_of_ble_eq_true rfl⟩) (cd_atO hj (by decide) (by decide)) rfl rfl hl.1 rfl (Nat.le_of_ble_eq_true rfl) dX1_addNode_18 ⟨by (try dsimp only); omega, by (try dsimp only); omega⟩ (fun u H locs hp hw => ?_)
  obtain ⟨ca, hj, rfl⟩ := hp
  refine W.widen (k := b0.1 - p3.2.2.1) (n := b0.2 - p3.2.2.2) (by omega) (by omega) ?_
  refine lv_aload_n cx.1 cx.2.1 dX1_addNode_21 rfl (lv_at hl 0 rfl) ?_
  refine cd_gO (o2 := 6) (e2 := 5) (o := 1) (k := 4) (f := 36) hj cx hw hic1 rfl ⟨by decide, rfl, by decide, rfl⟩ rfl (by decide) ⟨rfl, rfl⟩ (List.mem_cons_of_mem _ cm_69) dX1_addNode_22 ?_
  refine lv_aload_n cx.1 cx.2.1 dX1_addNode_25 rfl (lv_at hl 0 rfl) ?_
  obtain ⟨u5, e_u5, h⟩ := md_ob h
  have hb_u5 : u5 < 8 := (cd_dps e_u5).2
  refine cd_gP (o2 := 7) (u := u5) (o := 1) (k := 18) (f := 50) hj cx hw hic1 rfl ⟨by decide, rfl, by decide, rfl⟩ rfl (by decide) rfl e_u5 (List.mem_cons_of_mem _ cm_72) dX1_addNode_26 ?_
  refine cd_gI (o := 7) (k := 17) (f := 241) hj cx hw hic7 rfl ⟨by decide, rfl, by decide, rfl⟩ rfl (show _ < 8 by omega) (List.mem_cons_of_mem _ cm_73) dX1_addNode_29 ?_
  refine lv_i2l (v := ((cI p3.2.1 241 u5).toInt64)) cx.1 cx.2.1 dX1_addNode_32 rfl ?_
  obtain ⟨p6, e_p6, h⟩ := md_ob h
  obtain ⟨hm7, hn7, h⟩ := cd_cks h
  have hM7 : p.2.2.1 ≤ p6.2.2.1 ∧ p.2.2.2 ≤ p6.2.2.2 := ⟨hm7, hn7⟩
  have hle6 := (kc_X6_add l D cA E sz ad _ hj oq sgq sgv hE n p3.2.1 (p3.2.2) 5 (((cI p3.2.1 241 u5).toInt64)) (by decide) p6 e_p6).1
  refine hp_callVv (As := [.long ((cI p3.2.1 241 u5).toInt64)]) (rest := []) cx hw ((kc_X6_add l D cA E _ ad _ hj oq sgq sgv hE n p3.2.1 (p3.2.2) 5 (((cI p3.2.1 241 u5).toInt64)) (by decide) p6 e_p6).2) (cwV 1 cx.2.2.2.2.2.1 (cd_giV cm_71 cm_40 cm_41 cm_5 cm_42) rfl rfl rfl hdc_X6_add ⟨Nat.le_of_ble_eq_true rfl, Nat.le_of_ble_eq_true rfl⟩) (cd_atO hj (by decide) (by decide)) rfl rfl hl.1 rfl (Nat.le_of_ble_eq_true rfl) dX1_addNode_33 ⟨by (try dsimp only); omega, by (try dsimp only); omega⟩ (fun u H locs hp hw => ?_)
  obtain ⟨ca, hj, rfl⟩ := hp
  refine W.widen (k := b0.1 - p6.2.2.1) (n := b0.2 - p6.2.2.2) (by omega) (by omega) ?_
  refine lv_aload_n cx.1 cx.2.1 dX1_addNode_36 rfl (lv_at hl 0 rfl) ?_
  refine cd_gO (o2 := 6) (e2 := 5) (o := 1) (k := 4) (f := 36) hj cx hw hic1 rfl ⟨by decide, rfl, by decide, rfl⟩ rfl (by decide) ⟨rfl, rfl⟩ (List.mem_cons_of_mem _ cm_69) dX1_addNode_37 ?_
  refine cd_gI (o := 6) (k := 1) (f := 193) hj cx hw hic6 rfl ⟨by decide, rfl, by decide, rfl⟩ rfl (by decide) (List.mem_cons_of_mem _ cm_74) dX1_addNode_40 ?_
  refine lv_iconst (v := 3) cx.1 cx.2.1 dX1_addNode_43 (by decide) ?_
  refine lv_idiv cx.1 cx.2.1 dX1_addNode_44 (by decide) ?_
  refine lv_iconst (v := 1) cx.1 cx.2.1 dX1_addNode_45 (by decide) ?_
  refine lv_isub cx.1 cx.2.1 dX1_addNode_46 ?_
  exact hp_iret cx hw (cd_retb hj h) dX1_addNode_47 (cd_le1 h) (cd_le2 h)
